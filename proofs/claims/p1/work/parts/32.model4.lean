set_option maxHeartbeats 400000 in
set_option maxRecDepth 100000 in
theorem m_silence0 (l : Launch) (dC : Nat → ClassId) (dI : Nat → Nat → Nat) (sz : Nat) (h : Nat) (qa : Nat → Nat) (x0 x2 x3 x4 x13 x14 x15 x16 x17 x18 x19 x20 x21 x22 x23 x24 x26 x27 x28 : Int32) (cI cJ cZ : ClassId) (cv : Nat) (hcv : cv < 4) : Met l yX11_silence (wsG (.code yX11_silence cX11_silence 2 none)) ({ frames := 0, cells := 0, slots := 0, locals := 0 }) (va_Pc [.ref h, .int (nI cv)] (gP (dC, dI) [(cI, .int), (cJ, .long), (cZ, .boolean)] [(h, .inr (10, mdF qa x0 x2 x3 x4 x13 x14 x15 x16 x17 x18 x19 x20 x21 x22 x23 x24 x26 x27 x28)), (qa 31, .inl (cI, 4, .inl (fun _ => 0))), (qa 32, .inl (cI, 4, .inl (fun _ => 0))), (qa 33, .inl (cI, 4, .inl (fun _ => 0))), (qa 34, .inl (cI, 4, .inl (fun _ => 0))), (qa 35, .inl (cI, 4, .inl (fun _ => 0))), (qa 36, .inl (cI, 4, .inl (fun _ => 0))), (qa 37, .inl (cI, 4, .inl (fun _ => 0))), (qa 38, .inl (cI, 4, .inl (fun _ => 0))), (qa 39, .inl (cI, 4, .inl (fun _ => 0))), (qa 40, .inl (cI, 4, .inl (fun _ => 0))), (qa 41, .inl (cI, 4, .inl (fun _ => 0))), (qa 42, .inl (cI, 4, .inl (fun _ => 0))), (qa 43, .inl (cI, 4, .inl (fun _ => 0))), (qa 44, .inl (cI, 4, .inl (fun _ => 0))), (qa 45, .inl (cI, 4, .inl (fun _ => 0))), (qa 46, .inl (cI, 4, .inl (fun _ => 0))), (qa 47, .inl (cI, 4, .inl (fun _ => 0))), (qa 48, .inl (cI, 4, .inl (fun _ => 0))), (qa 49, .inl (cI, 4, .inl (fun _ => 0))), (qa 50, .inl (cJ, 4, .inr (.inl (fun _ => 0)))), (qa 51, .inl (cZ, 4, .inl (fun _ => 0)))] sz)) (va_Qv (fun u : va_W × gT => u = ([(h, .inr (10, mdF qa x0 x2 x3 x4 x13 x14 x15 x16 x17 x18 x19 x20 x21 x22 x23 x24 x26 x27 x28)), (qa 31, .inl (cI, 4, .inl (fun _ => 0))), (qa 32, .inl (cI, 4, .inl (fun _ => 0))), (qa 33, .inl (cI, 4, .inl (fun _ => 0))), (qa 34, .inl (cI, 4, .inl (fun _ => 0))), (qa 35, .inl (cI, 4, .inl (fun _ => 0))), (qa 36, .inl (cI, 4, .inl (fun _ => 0))), (qa 37, .inl (cI, 4, .inl (fun _ => 0))), (qa 38, .inl (cI, 4, .inl (fun _ => 0))), (qa 39, .inl (cI, 4, .inl (fun _ => 0))), (qa 40, .inl (cI, 4, .inl (fun _ => 0))), (qa 41, .inl (cI, 4, .inl (fun _ => 0))), (qa 42, .inl (cI, 4, .inl (fun _ => 0))), (qa 43, .inl (cI, 4, .inl (fun _ => 0))), (qa 44, .inl (cI, 4, .inl (fun _ => 0))), (qa 45, .inl (cI, 4, .inl (fun _ => 0))), (qa 46, .inl (cI, 4, .inl (fun _ => 0))), (qa 47, .inl (cI, 4, .inl (fun _ => 0))), (qa 48, .inl (cI, 4, .inl (fun _ => 0))), (qa 49, .inl (cI, 4, .inl (fun _ => 0))), (qa 50, .inl (cJ, 4, .inr (.inl (fun _ => 0)))), (qa 51, .inl (cZ, 4, .inl (fun _ => 0)))], [])) (gB (dC, dI) (va_A [(h, .inr (10, mdF qa x0 x2 x3 x4 x13 x14 x15 x16 x17 x18 x19 x20 x21 x22 x23 x24 x26 x27 x28)), (qa 31, .inl (cI, 4, .inl (fun _ => 0))), (qa 32, .inl (cI, 4, .inl (fun _ => 0))), (qa 33, .inl (cI, 4, .inl (fun _ => 0))), (qa 34, .inl (cI, 4, .inl (fun _ => 0))), (qa 35, .inl (cI, 4, .inl (fun _ => 0))), (qa 36, .inl (cI, 4, .inl (fun _ => 0))), (qa 37, .inl (cI, 4, .inl (fun _ => 0))), (qa 38, .inl (cI, 4, .inl (fun _ => 0))), (qa 39, .inl (cI, 4, .inl (fun _ => 0))), (qa 40, .inl (cI, 4, .inl (fun _ => 0))), (qa 41, .inl (cI, 4, .inl (fun _ => 0))), (qa 42, .inl (cI, 4, .inl (fun _ => 0))), (qa 43, .inl (cI, 4, .inl (fun _ => 0))), (qa 44, .inl (cI, 4, .inl (fun _ => 0))), (qa 45, .inl (cI, 4, .inl (fun _ => 0))), (qa 46, .inl (cI, 4, .inl (fun _ => 0))), (qa 47, .inl (cI, 4, .inl (fun _ => 0))), (qa 48, .inl (cI, 4, .inl (fun _ => 0))), (qa 49, .inl (cI, 4, .inl (fun _ => 0))), (qa 50, .inl (cJ, 4, .inr (.inl (fun _ => 0)))), (qa 51, .inl (cZ, 4, .inl (fun _ => 0)))] sz)) (va_A [(h, .inr (10, mdF qa x0 x2 x3 x4 x13 x14 x15 x16 x17 x18 x19 x20 x21 x22 x23 x24 x26 x27 x28)), (qa 31, .inl (cI, 4, .inl (fun _ => 0))), (qa 32, .inl (cI, 4, .inl (fun _ => 0))), (qa 33, .inl (cI, 4, .inl (fun _ => 0))), (qa 34, .inl (cI, 4, .inl (fun _ => 0))), (qa 35, .inl (cI, 4, .inl (fun _ => 0))), (qa 36, .inl (cI, 4, .inl (fun _ => 0))), (qa 37, .inl (cI, 4, .inl (fun _ => 0))), (qa 38, .inl (cI, 4, .inl (fun _ => 0))), (qa 39, .inl (cI, 4, .inl (fun _ => 0))), (qa 40, .inl (cI, 4, .inl (fun _ => 0))), (qa 41, .inl (cI, 4, .inl (fun _ => 0))), (qa 42, .inl (cI, 4, .inl (fun _ => 0))), (qa 43, .inl (cI, 4, .inl (fun _ => 0))), (qa 44, .inl (cI, 4, .inl (fun _ => 0))), (qa 45, .inl (cI, 4, .inl (fun _ => 0))), (qa 46, .inl (cI, 4, .inl (fun _ => 0))), (qa 47, .inl (cI, 4, .inl (fun _ => 0))), (qa 48, .inl (cI, 4, .inl (fun _ => 0))), (qa 49, .inl (cI, 4, .inl (fun _ => 0))), (qa 50, .inl (cJ, 4, .inr (.inl (fun _ => 0)))), (qa 51, .inl (cZ, 4, .inl (fun _ => 0)))] sz)) 0 0 (va_A [(h, .inr (10, mdF qa x0 x2 x3 x4 x13 x14 x15 x16 x17 x18 x19 x20 x21 x22 x23 x24 x26 x27 x28)), (qa 31, .inl (cI, 4, .inl (fun _ => 0))), (qa 32, .inl (cI, 4, .inl (fun _ => 0))), (qa 33, .inl (cI, 4, .inl (fun _ => 0))), (qa 34, .inl (cI, 4, .inl (fun _ => 0))), (qa 35, .inl (cI, 4, .inl (fun _ => 0))), (qa 36, .inl (cI, 4, .inl (fun _ => 0))), (qa 37, .inl (cI, 4, .inl (fun _ => 0))), (qa 38, .inl (cI, 4, .inl (fun _ => 0))), (qa 39, .inl (cI, 4, .inl (fun _ => 0))), (qa 40, .inl (cI, 4, .inl (fun _ => 0))), (qa 41, .inl (cI, 4, .inl (fun _ => 0))), (qa 42, .inl (cI, 4, .inl (fun _ => 0))), (qa 43, .inl (cI, 4, .inl (fun _ => 0))), (qa 44, .inl (cI, 4, .inl (fun _ => 0))), (qa 45, .inl (cI, 4, .inl (fun _ => 0))), (qa 46, .inl (cI, 4, .inl (fun _ => 0))), (qa 47, .inl (cI, 4, .inl (fun _ => 0))), (qa 48, .inl (cI, 4, .inl (fun _ => 0))), (qa 49, .inl (cI, 4, .inl (fun _ => 0))), (qa 50, .inl (cJ, 4, .inr (.inl (fun _ => 0)))), (qa 51, .inl (cZ, 4, .inl (fun _ => 0)))] sz) := by
  refine Met.ofW (cc := cX11_silence) (maxL := 2) (ret := none) (by decide) rfl ?_
  intro p e s m args below meth c s₁ B hml hv
  obtain ⟨rfl, hsz, hP, hK, hD0, hN, hZ⟩ := hv
  have hx := B.exec
  have hb := B.bytes
  have hr := B.returns
  have hts := atoms_spec (ws := (wsG (.code yX11_silence cX11_silence 2 none))) B.pre
  have hown : s.vm.findClass RX11 = some m.cls := findClass_of_methodNamed B.named
  have hlocks := B.notSynchronized
  subst hsz
  have hD := hD0.self (sz := s.heap.size)
  generalize hAe : va_A [(h, .inr (10, mdF qa x0 x2 x3 x4 x13 x14 x15 x16 x17 x18 x19 x20 x21 x22 x23 x24 x26 x27 x28)), (qa 31, .inl (cI, 4, .inl (fun _ => 0))), (qa 32, .inl (cI, 4, .inl (fun _ => 0))), (qa 33, .inl (cI, 4, .inl (fun _ => 0))), (qa 34, .inl (cI, 4, .inl (fun _ => 0))), (qa 35, .inl (cI, 4, .inl (fun _ => 0))), (qa 36, .inl (cI, 4, .inl (fun _ => 0))), (qa 37, .inl (cI, 4, .inl (fun _ => 0))), (qa 38, .inl (cI, 4, .inl (fun _ => 0))), (qa 39, .inl (cI, 4, .inl (fun _ => 0))), (qa 40, .inl (cI, 4, .inl (fun _ => 0))), (qa 41, .inl (cI, 4, .inl (fun _ => 0))), (qa 42, .inl (cI, 4, .inl (fun _ => 0))), (qa 43, .inl (cI, 4, .inl (fun _ => 0))), (qa 44, .inl (cI, 4, .inl (fun _ => 0))), (qa 45, .inl (cI, 4, .inl (fun _ => 0))), (qa 46, .inl (cI, 4, .inl (fun _ => 0))), (qa 47, .inl (cI, 4, .inl (fun _ => 0))), (qa 48, .inl (cI, 4, .inl (fun _ => 0))), (qa 49, .inl (cI, 4, .inl (fun _ => 0))), (qa 50, .inl (cJ, 4, .inr (.inl (fun _ => 0)))), (qa 51, .inl (cZ, 4, .inl (fun _ => 0)))] s.heap.size = A at hD hZ ⊢
  have hA : ∀ q : Nat, s.heap.size ≤ q → A q := fun q h => by rw [← hAe]; exact Or.inr h
  have hl := lv_entry ([.ref h, .int (nI cv)]) (n := 2) (Nat.le_of_ble_eq_true rfl)
  rw [lg_entry_eq]
  generalize (lg_sl ([.ref h, .int (nI cv)]) ++ List.replicate (2 - (lg_sl ([.ref h, .int (nI cv)])).length) Slot.unset).toArray = ls at hl ⊢
  have hl : lv_has ls 2 [(0, .ref h), (1, .int (nI cv))] := hl
  refine g_start (A := A) hP (fun H locs hP hS => ?_)
  refine lv_aload_n hx hb dX11_silence_0 rfl (lv_at hl 0 rfl) ?_
  refine va_get (D := (dC, dI)) (ci := 10) (v := .ref (qa 31)) (C := RX11) (T := TX11) (N := 53) hx hb hts iwX11 hown hK hP 0 rfl rfl 31 (by decide) (hts (.fieldLink RX11 56 "ModulePlayerModel" "sample" "[I") (List.mem_cons_of_mem _ kw_187)) (fun _ h9 => h9) rfl dX11_silence_1 ?_
  refine lv_iload_n hx hb dX11_silence_4 rfl (lv_at hl 1 rfl) ?_
  refine lv_iconst (v := 0) hx hb dX11_silence_5 (by decide) ?_
  refine g_iast hx hb hK hP hD hS 1 0 rfl rfl cv (nI_clamp (Nat.lt_trans (show cv < 4 from hcv) (by decide))) (vp_in_nI (hcv) (by decide)) dX11_silence_6 (fun H locs hP hD hS => ?_)
  have hP : va_P (dC, dI) vwCl [(h, .inr (10, mdF qa x0 x2 x3 x4 x13 x14 x15 x16 x17 x18 x19 x20 x21 x22 x23 x24 x26 x27 x28)), (qa 31, .inl (cI, 4, .inl (upd (fun _ => 0) cv 0))), (qa 32, .inl (cI, 4, .inl (fun _ => 0))), (qa 33, .inl (cI, 4, .inl (fun _ => 0))), (qa 34, .inl (cI, 4, .inl (fun _ => 0))), (qa 35, .inl (cI, 4, .inl (fun _ => 0))), (qa 36, .inl (cI, 4, .inl (fun _ => 0))), (qa 37, .inl (cI, 4, .inl (fun _ => 0))), (qa 38, .inl (cI, 4, .inl (fun _ => 0))), (qa 39, .inl (cI, 4, .inl (fun _ => 0))), (qa 40, .inl (cI, 4, .inl (fun _ => 0))), (qa 41, .inl (cI, 4, .inl (fun _ => 0))), (qa 42, .inl (cI, 4, .inl (fun _ => 0))), (qa 43, .inl (cI, 4, .inl (fun _ => 0))), (qa 44, .inl (cI, 4, .inl (fun _ => 0))), (qa 45, .inl (cI, 4, .inl (fun _ => 0))), (qa 46, .inl (cI, 4, .inl (fun _ => 0))), (qa 47, .inl (cI, 4, .inl (fun _ => 0))), (qa 48, .inl (cI, 4, .inl (fun _ => 0))), (qa 49, .inl (cI, 4, .inl (fun _ => 0))), (qa 50, .inl (cJ, 4, .inr (.inl (fun _ => 0)))), (qa 51, .inl (cZ, 4, .inl (fun _ => 0)))] H := hP
  have hD : va_D A [(h, .inr (10, mdF qa x0 x2 x3 x4 x13 x14 x15 x16 x17 x18 x19 x20 x21 x22 x23 x24 x26 x27 x28)), (qa 31, .inl (cI, 4, .inl (upd (fun _ => 0) cv 0))), (qa 32, .inl (cI, 4, .inl (fun _ => 0))), (qa 33, .inl (cI, 4, .inl (fun _ => 0))), (qa 34, .inl (cI, 4, .inl (fun _ => 0))), (qa 35, .inl (cI, 4, .inl (fun _ => 0))), (qa 36, .inl (cI, 4, .inl (fun _ => 0))), (qa 37, .inl (cI, 4, .inl (fun _ => 0))), (qa 38, .inl (cI, 4, .inl (fun _ => 0))), (qa 39, .inl (cI, 4, .inl (fun _ => 0))), (qa 40, .inl (cI, 4, .inl (fun _ => 0))), (qa 41, .inl (cI, 4, .inl (fun _ => 0))), (qa 42, .inl (cI, 4, .inl (fun _ => 0))), (qa 43, .inl (cI, 4, .inl (fun _ => 0))), (qa 44, .inl (cI, 4, .inl (fun _ => 0))), (qa 45, .inl (cI, 4, .inl (fun _ => 0))), (qa 46, .inl (cI, 4, .inl (fun _ => 0))), (qa 47, .inl (cI, 4, .inl (fun _ => 0))), (qa 48, .inl (cI, 4, .inl (fun _ => 0))), (qa 49, .inl (cI, 4, .inl (fun _ => 0))), (qa 50, .inl (cJ, 4, .inr (.inl (fun _ => 0)))), (qa 51, .inl (cZ, 4, .inl (fun _ => 0)))] := hD
  have hfe_6 : upd (fun _ => 0) cv 0 = fun _ => 0 := upd_z cv
  rw [hfe_6] at hP hD
  refine lv_aload_n hx hb dX11_silence_7 rfl (lv_at hl 0 rfl) ?_
  refine va_get (D := (dC, dI)) (ci := 10) (v := .ref (qa 32)) (C := RX11) (T := TX11) (N := 53) hx hb hts iwX11 hown hK hP 0 rfl rfl 32 (by decide) (hts (.fieldLink RX11 59 "ModulePlayerModel" "volume" "[I") (List.mem_cons_of_mem _ kw_188)) (fun _ h9 => h9) rfl dX11_silence_8 ?_
  refine lv_iload_n hx hb dX11_silence_11 rfl (lv_at hl 1 rfl) ?_
  refine lv_iconst (v := 0) hx hb dX11_silence_12 (by decide) ?_
  refine g_iast hx hb hK hP hD hS 2 0 rfl rfl cv (nI_clamp (Nat.lt_trans (show cv < 4 from hcv) (by decide))) (vp_in_nI (hcv) (by decide)) dX11_silence_13 (fun H locs hP hD hS => ?_)
  have hP : va_P (dC, dI) vwCl [(h, .inr (10, mdF qa x0 x2 x3 x4 x13 x14 x15 x16 x17 x18 x19 x20 x21 x22 x23 x24 x26 x27 x28)), (qa 31, .inl (cI, 4, .inl (fun _ => 0))), (qa 32, .inl (cI, 4, .inl (upd (fun _ => 0) cv 0))), (qa 33, .inl (cI, 4, .inl (fun _ => 0))), (qa 34, .inl (cI, 4, .inl (fun _ => 0))), (qa 35, .inl (cI, 4, .inl (fun _ => 0))), (qa 36, .inl (cI, 4, .inl (fun _ => 0))), (qa 37, .inl (cI, 4, .inl (fun _ => 0))), (qa 38, .inl (cI, 4, .inl (fun _ => 0))), (qa 39, .inl (cI, 4, .inl (fun _ => 0))), (qa 40, .inl (cI, 4, .inl (fun _ => 0))), (qa 41, .inl (cI, 4, .inl (fun _ => 0))), (qa 42, .inl (cI, 4, .inl (fun _ => 0))), (qa 43, .inl (cI, 4, .inl (fun _ => 0))), (qa 44, .inl (cI, 4, .inl (fun _ => 0))), (qa 45, .inl (cI, 4, .inl (fun _ => 0))), (qa 46, .inl (cI, 4, .inl (fun _ => 0))), (qa 47, .inl (cI, 4, .inl (fun _ => 0))), (qa 48, .inl (cI, 4, .inl (fun _ => 0))), (qa 49, .inl (cI, 4, .inl (fun _ => 0))), (qa 50, .inl (cJ, 4, .inr (.inl (fun _ => 0)))), (qa 51, .inl (cZ, 4, .inl (fun _ => 0)))] H := hP
  have hD : va_D A [(h, .inr (10, mdF qa x0 x2 x3 x4 x13 x14 x15 x16 x17 x18 x19 x20 x21 x22 x23 x24 x26 x27 x28)), (qa 31, .inl (cI, 4, .inl (fun _ => 0))), (qa 32, .inl (cI, 4, .inl (upd (fun _ => 0) cv 0))), (qa 33, .inl (cI, 4, .inl (fun _ => 0))), (qa 34, .inl (cI, 4, .inl (fun _ => 0))), (qa 35, .inl (cI, 4, .inl (fun _ => 0))), (qa 36, .inl (cI, 4, .inl (fun _ => 0))), (qa 37, .inl (cI, 4, .inl (fun _ => 0))), (qa 38, .inl (cI, 4, .inl (fun _ => 0))), (qa 39, .inl (cI, 4, .inl (fun _ => 0))), (qa 40, .inl (cI, 4, .inl (fun _ => 0))), (qa 41, .inl (cI, 4, .inl (fun _ => 0))), (qa 42, .inl (cI, 4, .inl (fun _ => 0))), (qa 43, .inl (cI, 4, .inl (fun _ => 0))), (qa 44, .inl (cI, 4, .inl (fun _ => 0))), (qa 45, .inl (cI, 4, .inl (fun _ => 0))), (qa 46, .inl (cI, 4, .inl (fun _ => 0))), (qa 47, .inl (cI, 4, .inl (fun _ => 0))), (qa 48, .inl (cI, 4, .inl (fun _ => 0))), (qa 49, .inl (cI, 4, .inl (fun _ => 0))), (qa 50, .inl (cJ, 4, .inr (.inl (fun _ => 0)))), (qa 51, .inl (cZ, 4, .inl (fun _ => 0)))] := hD
  have hfe_13 : upd (fun _ => 0) cv 0 = fun _ => 0 := upd_z cv
  rw [hfe_13] at hP hD
  refine lv_aload_n hx hb dX11_silence_14 rfl (lv_at hl 0 rfl) ?_
  refine va_get (D := (dC, dI)) (ci := 10) (v := .ref (qa 33)) (C := RX11) (T := TX11) (N := 53) hx hb hts iwX11 hown hK hP 0 rfl rfl 33 (by decide) (hts (.fieldLink RX11 62 "ModulePlayerModel" "tuned" "[I") (List.mem_cons_of_mem _ kw_189)) (fun _ h9 => h9) rfl dX11_silence_15 ?_
  refine lv_iload_n hx hb dX11_silence_18 rfl (lv_at hl 1 rfl) ?_
  refine lv_iconst (v := 0) hx hb dX11_silence_19 (by decide) ?_
  refine g_iast hx hb hK hP hD hS 3 0 rfl rfl cv (nI_clamp (Nat.lt_trans (show cv < 4 from hcv) (by decide))) (vp_in_nI (hcv) (by decide)) dX11_silence_20 (fun H locs hP hD hS => ?_)
  have hP : va_P (dC, dI) vwCl [(h, .inr (10, mdF qa x0 x2 x3 x4 x13 x14 x15 x16 x17 x18 x19 x20 x21 x22 x23 x24 x26 x27 x28)), (qa 31, .inl (cI, 4, .inl (fun _ => 0))), (qa 32, .inl (cI, 4, .inl (fun _ => 0))), (qa 33, .inl (cI, 4, .inl (upd (fun _ => 0) cv 0))), (qa 34, .inl (cI, 4, .inl (fun _ => 0))), (qa 35, .inl (cI, 4, .inl (fun _ => 0))), (qa 36, .inl (cI, 4, .inl (fun _ => 0))), (qa 37, .inl (cI, 4, .inl (fun _ => 0))), (qa 38, .inl (cI, 4, .inl (fun _ => 0))), (qa 39, .inl (cI, 4, .inl (fun _ => 0))), (qa 40, .inl (cI, 4, .inl (fun _ => 0))), (qa 41, .inl (cI, 4, .inl (fun _ => 0))), (qa 42, .inl (cI, 4, .inl (fun _ => 0))), (qa 43, .inl (cI, 4, .inl (fun _ => 0))), (qa 44, .inl (cI, 4, .inl (fun _ => 0))), (qa 45, .inl (cI, 4, .inl (fun _ => 0))), (qa 46, .inl (cI, 4, .inl (fun _ => 0))), (qa 47, .inl (cI, 4, .inl (fun _ => 0))), (qa 48, .inl (cI, 4, .inl (fun _ => 0))), (qa 49, .inl (cI, 4, .inl (fun _ => 0))), (qa 50, .inl (cJ, 4, .inr (.inl (fun _ => 0)))), (qa 51, .inl (cZ, 4, .inl (fun _ => 0)))] H := hP
  have hD : va_D A [(h, .inr (10, mdF qa x0 x2 x3 x4 x13 x14 x15 x16 x17 x18 x19 x20 x21 x22 x23 x24 x26 x27 x28)), (qa 31, .inl (cI, 4, .inl (fun _ => 0))), (qa 32, .inl (cI, 4, .inl (fun _ => 0))), (qa 33, .inl (cI, 4, .inl (upd (fun _ => 0) cv 0))), (qa 34, .inl (cI, 4, .inl (fun _ => 0))), (qa 35, .inl (cI, 4, .inl (fun _ => 0))), (qa 36, .inl (cI, 4, .inl (fun _ => 0))), (qa 37, .inl (cI, 4, .inl (fun _ => 0))), (qa 38, .inl (cI, 4, .inl (fun _ => 0))), (qa 39, .inl (cI, 4, .inl (fun _ => 0))), (qa 40, .inl (cI, 4, .inl (fun _ => 0))), (qa 41, .inl (cI, 4, .inl (fun _ => 0))), (qa 42, .inl (cI, 4, .inl (fun _ => 0))), (qa 43, .inl (cI, 4, .inl (fun _ => 0))), (qa 44, .inl (cI, 4, .inl (fun _ => 0))), (qa 45, .inl (cI, 4, .inl (fun _ => 0))), (qa 46, .inl (cI, 4, .inl (fun _ => 0))), (qa 47, .inl (cI, 4, .inl (fun _ => 0))), (qa 48, .inl (cI, 4, .inl (fun _ => 0))), (qa 49, .inl (cI, 4, .inl (fun _ => 0))), (qa 50, .inl (cJ, 4, .inr (.inl (fun _ => 0)))), (qa 51, .inl (cZ, 4, .inl (fun _ => 0)))] := hD
  have hfe_20 : upd (fun _ => 0) cv 0 = fun _ => 0 := upd_z cv
  rw [hfe_20] at hP hD
  refine lv_aload_n hx hb dX11_silence_21 rfl (lv_at hl 0 rfl) ?_
  refine va_get (D := (dC, dI)) (ci := 10) (v := .ref (qa 34)) (C := RX11) (T := TX11) (N := 53) hx hb hts iwX11 hown hK hP 0 rfl rfl 34 (by decide) (hts (.fieldLink RX11 65 "ModulePlayerModel" "period" "[I") (List.mem_cons_of_mem _ kw_190)) (fun _ h9 => h9) rfl dX11_silence_22 ?_
  refine lv_iload_n hx hb dX11_silence_25 rfl (lv_at hl 1 rfl) ?_
  refine lv_iconst (v := 0) hx hb dX11_silence_26 (by decide) ?_
  refine g_iast hx hb hK hP hD hS 4 0 rfl rfl cv (nI_clamp (Nat.lt_trans (show cv < 4 from hcv) (by decide))) (vp_in_nI (hcv) (by decide)) dX11_silence_27 (fun H locs hP hD hS => ?_)
  have hP : va_P (dC, dI) vwCl [(h, .inr (10, mdF qa x0 x2 x3 x4 x13 x14 x15 x16 x17 x18 x19 x20 x21 x22 x23 x24 x26 x27 x28)), (qa 31, .inl (cI, 4, .inl (fun _ => 0))), (qa 32, .inl (cI, 4, .inl (fun _ => 0))), (qa 33, .inl (cI, 4, .inl (fun _ => 0))), (qa 34, .inl (cI, 4, .inl (upd (fun _ => 0) cv 0))), (qa 35, .inl (cI, 4, .inl (fun _ => 0))), (qa 36, .inl (cI, 4, .inl (fun _ => 0))), (qa 37, .inl (cI, 4, .inl (fun _ => 0))), (qa 38, .inl (cI, 4, .inl (fun _ => 0))), (qa 39, .inl (cI, 4, .inl (fun _ => 0))), (qa 40, .inl (cI, 4, .inl (fun _ => 0))), (qa 41, .inl (cI, 4, .inl (fun _ => 0))), (qa 42, .inl (cI, 4, .inl (fun _ => 0))), (qa 43, .inl (cI, 4, .inl (fun _ => 0))), (qa 44, .inl (cI, 4, .inl (fun _ => 0))), (qa 45, .inl (cI, 4, .inl (fun _ => 0))), (qa 46, .inl (cI, 4, .inl (fun _ => 0))), (qa 47, .inl (cI, 4, .inl (fun _ => 0))), (qa 48, .inl (cI, 4, .inl (fun _ => 0))), (qa 49, .inl (cI, 4, .inl (fun _ => 0))), (qa 50, .inl (cJ, 4, .inr (.inl (fun _ => 0)))), (qa 51, .inl (cZ, 4, .inl (fun _ => 0)))] H := hP
  have hD : va_D A [(h, .inr (10, mdF qa x0 x2 x3 x4 x13 x14 x15 x16 x17 x18 x19 x20 x21 x22 x23 x24 x26 x27 x28)), (qa 31, .inl (cI, 4, .inl (fun _ => 0))), (qa 32, .inl (cI, 4, .inl (fun _ => 0))), (qa 33, .inl (cI, 4, .inl (fun _ => 0))), (qa 34, .inl (cI, 4, .inl (upd (fun _ => 0) cv 0))), (qa 35, .inl (cI, 4, .inl (fun _ => 0))), (qa 36, .inl (cI, 4, .inl (fun _ => 0))), (qa 37, .inl (cI, 4, .inl (fun _ => 0))), (qa 38, .inl (cI, 4, .inl (fun _ => 0))), (qa 39, .inl (cI, 4, .inl (fun _ => 0))), (qa 40, .inl (cI, 4, .inl (fun _ => 0))), (qa 41, .inl (cI, 4, .inl (fun _ => 0))), (qa 42, .inl (cI, 4, .inl (fun _ => 0))), (qa 43, .inl (cI, 4, .inl (fun _ => 0))), (qa 44, .inl (cI, 4, .inl (fun _ => 0))), (qa 45, .inl (cI, 4, .inl (fun _ => 0))), (qa 46, .inl (cI, 4, .inl (fun _ => 0))), (qa 47, .inl (cI, 4, .inl (fun _ => 0))), (qa 48, .inl (cI, 4, .inl (fun _ => 0))), (qa 49, .inl (cI, 4, .inl (fun _ => 0))), (qa 50, .inl (cJ, 4, .inr (.inl (fun _ => 0)))), (qa 51, .inl (cZ, 4, .inl (fun _ => 0)))] := hD
  have hfe_27 : upd (fun _ => 0) cv 0 = fun _ => 0 := upd_z cv
  rw [hfe_27] at hP hD
  refine lv_aload_n hx hb dX11_silence_28 rfl (lv_at hl 0 rfl) ?_
  refine va_get (D := (dC, dI)) (ci := 10) (v := .ref (qa 35)) (C := RX11) (T := TX11) (N := 53) hx hb hts iwX11 hown hK hP 0 rfl rfl 35 (by decide) (hts (.fieldLink RX11 68 "ModulePlayerModel" "note" "[I") (List.mem_cons_of_mem _ kw_191)) (fun _ h9 => h9) rfl dX11_silence_29 ?_
  refine lv_iload_n hx hb dX11_silence_32 rfl (lv_at hl 1 rfl) ?_
  refine lv_iconst (v := 0) hx hb dX11_silence_33 (by decide) ?_
  refine g_iast hx hb hK hP hD hS 5 0 rfl rfl cv (nI_clamp (Nat.lt_trans (show cv < 4 from hcv) (by decide))) (vp_in_nI (hcv) (by decide)) dX11_silence_34 (fun H locs hP hD hS => ?_)
  have hP : va_P (dC, dI) vwCl [(h, .inr (10, mdF qa x0 x2 x3 x4 x13 x14 x15 x16 x17 x18 x19 x20 x21 x22 x23 x24 x26 x27 x28)), (qa 31, .inl (cI, 4, .inl (fun _ => 0))), (qa 32, .inl (cI, 4, .inl (fun _ => 0))), (qa 33, .inl (cI, 4, .inl (fun _ => 0))), (qa 34, .inl (cI, 4, .inl (fun _ => 0))), (qa 35, .inl (cI, 4, .inl (upd (fun _ => 0) cv 0))), (qa 36, .inl (cI, 4, .inl (fun _ => 0))), (qa 37, .inl (cI, 4, .inl (fun _ => 0))), (qa 38, .inl (cI, 4, .inl (fun _ => 0))), (qa 39, .inl (cI, 4, .inl (fun _ => 0))), (qa 40, .inl (cI, 4, .inl (fun _ => 0))), (qa 41, .inl (cI, 4, .inl (fun _ => 0))), (qa 42, .inl (cI, 4, .inl (fun _ => 0))), (qa 43, .inl (cI, 4, .inl (fun _ => 0))), (qa 44, .inl (cI, 4, .inl (fun _ => 0))), (qa 45, .inl (cI, 4, .inl (fun _ => 0))), (qa 46, .inl (cI, 4, .inl (fun _ => 0))), (qa 47, .inl (cI, 4, .inl (fun _ => 0))), (qa 48, .inl (cI, 4, .inl (fun _ => 0))), (qa 49, .inl (cI, 4, .inl (fun _ => 0))), (qa 50, .inl (cJ, 4, .inr (.inl (fun _ => 0)))), (qa 51, .inl (cZ, 4, .inl (fun _ => 0)))] H := hP
  have hD : va_D A [(h, .inr (10, mdF qa x0 x2 x3 x4 x13 x14 x15 x16 x17 x18 x19 x20 x21 x22 x23 x24 x26 x27 x28)), (qa 31, .inl (cI, 4, .inl (fun _ => 0))), (qa 32, .inl (cI, 4, .inl (fun _ => 0))), (qa 33, .inl (cI, 4, .inl (fun _ => 0))), (qa 34, .inl (cI, 4, .inl (fun _ => 0))), (qa 35, .inl (cI, 4, .inl (upd (fun _ => 0) cv 0))), (qa 36, .inl (cI, 4, .inl (fun _ => 0))), (qa 37, .inl (cI, 4, .inl (fun _ => 0))), (qa 38, .inl (cI, 4, .inl (fun _ => 0))), (qa 39, .inl (cI, 4, .inl (fun _ => 0))), (qa 40, .inl (cI, 4, .inl (fun _ => 0))), (qa 41, .inl (cI, 4, .inl (fun _ => 0))), (qa 42, .inl (cI, 4, .inl (fun _ => 0))), (qa 43, .inl (cI, 4, .inl (fun _ => 0))), (qa 44, .inl (cI, 4, .inl (fun _ => 0))), (qa 45, .inl (cI, 4, .inl (fun _ => 0))), (qa 46, .inl (cI, 4, .inl (fun _ => 0))), (qa 47, .inl (cI, 4, .inl (fun _ => 0))), (qa 48, .inl (cI, 4, .inl (fun _ => 0))), (qa 49, .inl (cI, 4, .inl (fun _ => 0))), (qa 50, .inl (cJ, 4, .inr (.inl (fun _ => 0)))), (qa 51, .inl (cZ, 4, .inl (fun _ => 0)))] := hD
  have hfe_34 : upd (fun _ => 0) cv 0 = fun _ => 0 := upd_z cv
  rw [hfe_34] at hP hD
  refine lv_aload_n hx hb dX11_silence_35 rfl (lv_at hl 0 rfl) ?_
  refine va_get (D := (dC, dI)) (ci := 10) (v := .ref (qa 36)) (C := RX11) (T := TX11) (N := 53) hx hb hts iwX11 hown hK hP 0 rfl rfl 36 (by decide) (hts (.fieldLink RX11 71 "ModulePlayerModel" "target" "[I") (List.mem_cons_of_mem _ kw_192)) (fun _ h9 => h9) rfl dX11_silence_36 ?_
  refine lv_iload_n hx hb dX11_silence_39 rfl (lv_at hl 1 rfl) ?_
  refine lv_iconst (v := 0) hx hb dX11_silence_40 (by decide) ?_
  refine g_iast hx hb hK hP hD hS 6 0 rfl rfl cv (nI_clamp (Nat.lt_trans (show cv < 4 from hcv) (by decide))) (vp_in_nI (hcv) (by decide)) dX11_silence_41 (fun H locs hP hD hS => ?_)
  have hP : va_P (dC, dI) vwCl [(h, .inr (10, mdF qa x0 x2 x3 x4 x13 x14 x15 x16 x17 x18 x19 x20 x21 x22 x23 x24 x26 x27 x28)), (qa 31, .inl (cI, 4, .inl (fun _ => 0))), (qa 32, .inl (cI, 4, .inl (fun _ => 0))), (qa 33, .inl (cI, 4, .inl (fun _ => 0))), (qa 34, .inl (cI, 4, .inl (fun _ => 0))), (qa 35, .inl (cI, 4, .inl (fun _ => 0))), (qa 36, .inl (cI, 4, .inl (upd (fun _ => 0) cv 0))), (qa 37, .inl (cI, 4, .inl (fun _ => 0))), (qa 38, .inl (cI, 4, .inl (fun _ => 0))), (qa 39, .inl (cI, 4, .inl (fun _ => 0))), (qa 40, .inl (cI, 4, .inl (fun _ => 0))), (qa 41, .inl (cI, 4, .inl (fun _ => 0))), (qa 42, .inl (cI, 4, .inl (fun _ => 0))), (qa 43, .inl (cI, 4, .inl (fun _ => 0))), (qa 44, .inl (cI, 4, .inl (fun _ => 0))), (qa 45, .inl (cI, 4, .inl (fun _ => 0))), (qa 46, .inl (cI, 4, .inl (fun _ => 0))), (qa 47, .inl (cI, 4, .inl (fun _ => 0))), (qa 48, .inl (cI, 4, .inl (fun _ => 0))), (qa 49, .inl (cI, 4, .inl (fun _ => 0))), (qa 50, .inl (cJ, 4, .inr (.inl (fun _ => 0)))), (qa 51, .inl (cZ, 4, .inl (fun _ => 0)))] H := hP
  have hD : va_D A [(h, .inr (10, mdF qa x0 x2 x3 x4 x13 x14 x15 x16 x17 x18 x19 x20 x21 x22 x23 x24 x26 x27 x28)), (qa 31, .inl (cI, 4, .inl (fun _ => 0))), (qa 32, .inl (cI, 4, .inl (fun _ => 0))), (qa 33, .inl (cI, 4, .inl (fun _ => 0))), (qa 34, .inl (cI, 4, .inl (fun _ => 0))), (qa 35, .inl (cI, 4, .inl (fun _ => 0))), (qa 36, .inl (cI, 4, .inl (upd (fun _ => 0) cv 0))), (qa 37, .inl (cI, 4, .inl (fun _ => 0))), (qa 38, .inl (cI, 4, .inl (fun _ => 0))), (qa 39, .inl (cI, 4, .inl (fun _ => 0))), (qa 40, .inl (cI, 4, .inl (fun _ => 0))), (qa 41, .inl (cI, 4, .inl (fun _ => 0))), (qa 42, .inl (cI, 4, .inl (fun _ => 0))), (qa 43, .inl (cI, 4, .inl (fun _ => 0))), (qa 44, .inl (cI, 4, .inl (fun _ => 0))), (qa 45, .inl (cI, 4, .inl (fun _ => 0))), (qa 46, .inl (cI, 4, .inl (fun _ => 0))), (qa 47, .inl (cI, 4, .inl (fun _ => 0))), (qa 48, .inl (cI, 4, .inl (fun _ => 0))), (qa 49, .inl (cI, 4, .inl (fun _ => 0))), (qa 50, .inl (cJ, 4, .inr (.inl (fun _ => 0)))), (qa 51, .inl (cZ, 4, .inl (fun _ => 0)))] := hD
  have hfe_41 : upd (fun _ => 0) cv 0 = fun _ => 0 := upd_z cv
  rw [hfe_41] at hP hD
  refine lv_aload_n hx hb dX11_silence_42 rfl (lv_at hl 0 rfl) ?_
  refine va_get (D := (dC, dI)) (ci := 10) (v := .ref (qa 37)) (C := RX11) (T := TX11) (N := 53) hx hb hts iwX11 hown hK hP 0 rfl rfl 37 (by decide) (hts (.fieldLink RX11 74 "ModulePlayerModel" "porta" "[I") (List.mem_cons_of_mem _ kw_193)) (fun _ h9 => h9) rfl dX11_silence_43 ?_
  refine lv_iload_n hx hb dX11_silence_46 rfl (lv_at hl 1 rfl) ?_
  refine lv_iconst (v := 0) hx hb dX11_silence_47 (by decide) ?_
  refine g_iast hx hb hK hP hD hS 7 0 rfl rfl cv (nI_clamp (Nat.lt_trans (show cv < 4 from hcv) (by decide))) (vp_in_nI (hcv) (by decide)) dX11_silence_48 (fun H locs hP hD hS => ?_)
  have hP : va_P (dC, dI) vwCl [(h, .inr (10, mdF qa x0 x2 x3 x4 x13 x14 x15 x16 x17 x18 x19 x20 x21 x22 x23 x24 x26 x27 x28)), (qa 31, .inl (cI, 4, .inl (fun _ => 0))), (qa 32, .inl (cI, 4, .inl (fun _ => 0))), (qa 33, .inl (cI, 4, .inl (fun _ => 0))), (qa 34, .inl (cI, 4, .inl (fun _ => 0))), (qa 35, .inl (cI, 4, .inl (fun _ => 0))), (qa 36, .inl (cI, 4, .inl (fun _ => 0))), (qa 37, .inl (cI, 4, .inl (upd (fun _ => 0) cv 0))), (qa 38, .inl (cI, 4, .inl (fun _ => 0))), (qa 39, .inl (cI, 4, .inl (fun _ => 0))), (qa 40, .inl (cI, 4, .inl (fun _ => 0))), (qa 41, .inl (cI, 4, .inl (fun _ => 0))), (qa 42, .inl (cI, 4, .inl (fun _ => 0))), (qa 43, .inl (cI, 4, .inl (fun _ => 0))), (qa 44, .inl (cI, 4, .inl (fun _ => 0))), (qa 45, .inl (cI, 4, .inl (fun _ => 0))), (qa 46, .inl (cI, 4, .inl (fun _ => 0))), (qa 47, .inl (cI, 4, .inl (fun _ => 0))), (qa 48, .inl (cI, 4, .inl (fun _ => 0))), (qa 49, .inl (cI, 4, .inl (fun _ => 0))), (qa 50, .inl (cJ, 4, .inr (.inl (fun _ => 0)))), (qa 51, .inl (cZ, 4, .inl (fun _ => 0)))] H := hP
  have hD : va_D A [(h, .inr (10, mdF qa x0 x2 x3 x4 x13 x14 x15 x16 x17 x18 x19 x20 x21 x22 x23 x24 x26 x27 x28)), (qa 31, .inl (cI, 4, .inl (fun _ => 0))), (qa 32, .inl (cI, 4, .inl (fun _ => 0))), (qa 33, .inl (cI, 4, .inl (fun _ => 0))), (qa 34, .inl (cI, 4, .inl (fun _ => 0))), (qa 35, .inl (cI, 4, .inl (fun _ => 0))), (qa 36, .inl (cI, 4, .inl (fun _ => 0))), (qa 37, .inl (cI, 4, .inl (upd (fun _ => 0) cv 0))), (qa 38, .inl (cI, 4, .inl (fun _ => 0))), (qa 39, .inl (cI, 4, .inl (fun _ => 0))), (qa 40, .inl (cI, 4, .inl (fun _ => 0))), (qa 41, .inl (cI, 4, .inl (fun _ => 0))), (qa 42, .inl (cI, 4, .inl (fun _ => 0))), (qa 43, .inl (cI, 4, .inl (fun _ => 0))), (qa 44, .inl (cI, 4, .inl (fun _ => 0))), (qa 45, .inl (cI, 4, .inl (fun _ => 0))), (qa 46, .inl (cI, 4, .inl (fun _ => 0))), (qa 47, .inl (cI, 4, .inl (fun _ => 0))), (qa 48, .inl (cI, 4, .inl (fun _ => 0))), (qa 49, .inl (cI, 4, .inl (fun _ => 0))), (qa 50, .inl (cJ, 4, .inr (.inl (fun _ => 0)))), (qa 51, .inl (cZ, 4, .inl (fun _ => 0)))] := hD
  have hfe_48 : upd (fun _ => 0) cv 0 = fun _ => 0 := upd_z cv
  rw [hfe_48] at hP hD
  refine lv_aload_n hx hb dX11_silence_49 rfl (lv_at hl 0 rfl) ?_
  refine va_get (D := (dC, dI)) (ci := 10) (v := .ref (qa 38)) (C := RX11) (T := TX11) (N := 53) hx hb hts iwX11 hown hK hP 0 rfl rfl 38 (by decide) (hts (.fieldLink RX11 77 "ModulePlayerModel" "vib" "[I") (List.mem_cons_of_mem _ kw_194)) (fun _ h9 => h9) rfl dX11_silence_50 ?_
  refine lv_iload_n hx hb dX11_silence_53 rfl (lv_at hl 1 rfl) ?_
  refine lv_iconst (v := 0) hx hb dX11_silence_54 (by decide) ?_
  refine g_iast hx hb hK hP hD hS 8 0 rfl rfl cv (nI_clamp (Nat.lt_trans (show cv < 4 from hcv) (by decide))) (vp_in_nI (hcv) (by decide)) dX11_silence_55 (fun H locs hP hD hS => ?_)
  have hP : va_P (dC, dI) vwCl [(h, .inr (10, mdF qa x0 x2 x3 x4 x13 x14 x15 x16 x17 x18 x19 x20 x21 x22 x23 x24 x26 x27 x28)), (qa 31, .inl (cI, 4, .inl (fun _ => 0))), (qa 32, .inl (cI, 4, .inl (fun _ => 0))), (qa 33, .inl (cI, 4, .inl (fun _ => 0))), (qa 34, .inl (cI, 4, .inl (fun _ => 0))), (qa 35, .inl (cI, 4, .inl (fun _ => 0))), (qa 36, .inl (cI, 4, .inl (fun _ => 0))), (qa 37, .inl (cI, 4, .inl (fun _ => 0))), (qa 38, .inl (cI, 4, .inl (upd (fun _ => 0) cv 0))), (qa 39, .inl (cI, 4, .inl (fun _ => 0))), (qa 40, .inl (cI, 4, .inl (fun _ => 0))), (qa 41, .inl (cI, 4, .inl (fun _ => 0))), (qa 42, .inl (cI, 4, .inl (fun _ => 0))), (qa 43, .inl (cI, 4, .inl (fun _ => 0))), (qa 44, .inl (cI, 4, .inl (fun _ => 0))), (qa 45, .inl (cI, 4, .inl (fun _ => 0))), (qa 46, .inl (cI, 4, .inl (fun _ => 0))), (qa 47, .inl (cI, 4, .inl (fun _ => 0))), (qa 48, .inl (cI, 4, .inl (fun _ => 0))), (qa 49, .inl (cI, 4, .inl (fun _ => 0))), (qa 50, .inl (cJ, 4, .inr (.inl (fun _ => 0)))), (qa 51, .inl (cZ, 4, .inl (fun _ => 0)))] H := hP
  have hD : va_D A [(h, .inr (10, mdF qa x0 x2 x3 x4 x13 x14 x15 x16 x17 x18 x19 x20 x21 x22 x23 x24 x26 x27 x28)), (qa 31, .inl (cI, 4, .inl (fun _ => 0))), (qa 32, .inl (cI, 4, .inl (fun _ => 0))), (qa 33, .inl (cI, 4, .inl (fun _ => 0))), (qa 34, .inl (cI, 4, .inl (fun _ => 0))), (qa 35, .inl (cI, 4, .inl (fun _ => 0))), (qa 36, .inl (cI, 4, .inl (fun _ => 0))), (qa 37, .inl (cI, 4, .inl (fun _ => 0))), (qa 38, .inl (cI, 4, .inl (upd (fun _ => 0) cv 0))), (qa 39, .inl (cI, 4, .inl (fun _ => 0))), (qa 40, .inl (cI, 4, .inl (fun _ => 0))), (qa 41, .inl (cI, 4, .inl (fun _ => 0))), (qa 42, .inl (cI, 4, .inl (fun _ => 0))), (qa 43, .inl (cI, 4, .inl (fun _ => 0))), (qa 44, .inl (cI, 4, .inl (fun _ => 0))), (qa 45, .inl (cI, 4, .inl (fun _ => 0))), (qa 46, .inl (cI, 4, .inl (fun _ => 0))), (qa 47, .inl (cI, 4, .inl (fun _ => 0))), (qa 48, .inl (cI, 4, .inl (fun _ => 0))), (qa 49, .inl (cI, 4, .inl (fun _ => 0))), (qa 50, .inl (cJ, 4, .inr (.inl (fun _ => 0)))), (qa 51, .inl (cZ, 4, .inl (fun _ => 0)))] := hD
  have hfe_55 : upd (fun _ => 0) cv 0 = fun _ => 0 := upd_z cv
  rw [hfe_55] at hP hD
  refine lv_aload_n hx hb dX11_silence_56 rfl (lv_at hl 0 rfl) ?_
  refine va_get (D := (dC, dI)) (ci := 10) (v := .ref (qa 39)) (C := RX11) (T := TX11) (N := 53) hx hb hts iwX11 hown hK hP 0 rfl rfl 39 (by decide) (hts (.fieldLink RX11 80 "ModulePlayerModel" "vibPlace" "[I") (List.mem_cons_of_mem _ kw_195)) (fun _ h9 => h9) rfl dX11_silence_57 ?_
  refine lv_iload_n hx hb dX11_silence_60 rfl (lv_at hl 1 rfl) ?_
  refine lv_iconst (v := 0) hx hb dX11_silence_61 (by decide) ?_
  refine g_iast hx hb hK hP hD hS 9 0 rfl rfl cv (nI_clamp (Nat.lt_trans (show cv < 4 from hcv) (by decide))) (vp_in_nI (hcv) (by decide)) dX11_silence_62 (fun H locs hP hD hS => ?_)
  have hP : va_P (dC, dI) vwCl [(h, .inr (10, mdF qa x0 x2 x3 x4 x13 x14 x15 x16 x17 x18 x19 x20 x21 x22 x23 x24 x26 x27 x28)), (qa 31, .inl (cI, 4, .inl (fun _ => 0))), (qa 32, .inl (cI, 4, .inl (fun _ => 0))), (qa 33, .inl (cI, 4, .inl (fun _ => 0))), (qa 34, .inl (cI, 4, .inl (fun _ => 0))), (qa 35, .inl (cI, 4, .inl (fun _ => 0))), (qa 36, .inl (cI, 4, .inl (fun _ => 0))), (qa 37, .inl (cI, 4, .inl (fun _ => 0))), (qa 38, .inl (cI, 4, .inl (fun _ => 0))), (qa 39, .inl (cI, 4, .inl (upd (fun _ => 0) cv 0))), (qa 40, .inl (cI, 4, .inl (fun _ => 0))), (qa 41, .inl (cI, 4, .inl (fun _ => 0))), (qa 42, .inl (cI, 4, .inl (fun _ => 0))), (qa 43, .inl (cI, 4, .inl (fun _ => 0))), (qa 44, .inl (cI, 4, .inl (fun _ => 0))), (qa 45, .inl (cI, 4, .inl (fun _ => 0))), (qa 46, .inl (cI, 4, .inl (fun _ => 0))), (qa 47, .inl (cI, 4, .inl (fun _ => 0))), (qa 48, .inl (cI, 4, .inl (fun _ => 0))), (qa 49, .inl (cI, 4, .inl (fun _ => 0))), (qa 50, .inl (cJ, 4, .inr (.inl (fun _ => 0)))), (qa 51, .inl (cZ, 4, .inl (fun _ => 0)))] H := hP
  have hD : va_D A [(h, .inr (10, mdF qa x0 x2 x3 x4 x13 x14 x15 x16 x17 x18 x19 x20 x21 x22 x23 x24 x26 x27 x28)), (qa 31, .inl (cI, 4, .inl (fun _ => 0))), (qa 32, .inl (cI, 4, .inl (fun _ => 0))), (qa 33, .inl (cI, 4, .inl (fun _ => 0))), (qa 34, .inl (cI, 4, .inl (fun _ => 0))), (qa 35, .inl (cI, 4, .inl (fun _ => 0))), (qa 36, .inl (cI, 4, .inl (fun _ => 0))), (qa 37, .inl (cI, 4, .inl (fun _ => 0))), (qa 38, .inl (cI, 4, .inl (fun _ => 0))), (qa 39, .inl (cI, 4, .inl (upd (fun _ => 0) cv 0))), (qa 40, .inl (cI, 4, .inl (fun _ => 0))), (qa 41, .inl (cI, 4, .inl (fun _ => 0))), (qa 42, .inl (cI, 4, .inl (fun _ => 0))), (qa 43, .inl (cI, 4, .inl (fun _ => 0))), (qa 44, .inl (cI, 4, .inl (fun _ => 0))), (qa 45, .inl (cI, 4, .inl (fun _ => 0))), (qa 46, .inl (cI, 4, .inl (fun _ => 0))), (qa 47, .inl (cI, 4, .inl (fun _ => 0))), (qa 48, .inl (cI, 4, .inl (fun _ => 0))), (qa 49, .inl (cI, 4, .inl (fun _ => 0))), (qa 50, .inl (cJ, 4, .inr (.inl (fun _ => 0)))), (qa 51, .inl (cZ, 4, .inl (fun _ => 0)))] := hD
  have hfe_62 : upd (fun _ => 0) cv 0 = fun _ => 0 := upd_z cv
  rw [hfe_62] at hP hD
  refine lv_aload_n hx hb dX11_silence_63 rfl (lv_at hl 0 rfl) ?_
  refine va_get (D := (dC, dI)) (ci := 10) (v := .ref (qa 40)) (C := RX11) (T := TX11) (N := 53) hx hb hts iwX11 hown hK hP 0 rfl rfl 40 (by decide) (hts (.fieldLink RX11 83 "ModulePlayerModel" "vibForm" "[I") (List.mem_cons_of_mem _ kw_196)) (fun _ h9 => h9) rfl dX11_silence_64 ?_
  refine lv_iload_n hx hb dX11_silence_67 rfl (lv_at hl 1 rfl) ?_
  refine lv_iconst (v := 0) hx hb dX11_silence_68 (by decide) ?_
  refine g_iast hx hb hK hP hD hS 10 0 rfl rfl cv (nI_clamp (Nat.lt_trans (show cv < 4 from hcv) (by decide))) (vp_in_nI (hcv) (by decide)) dX11_silence_69 (fun H locs hP hD hS => ?_)
  have hP : va_P (dC, dI) vwCl [(h, .inr (10, mdF qa x0 x2 x3 x4 x13 x14 x15 x16 x17 x18 x19 x20 x21 x22 x23 x24 x26 x27 x28)), (qa 31, .inl (cI, 4, .inl (fun _ => 0))), (qa 32, .inl (cI, 4, .inl (fun _ => 0))), (qa 33, .inl (cI, 4, .inl (fun _ => 0))), (qa 34, .inl (cI, 4, .inl (fun _ => 0))), (qa 35, .inl (cI, 4, .inl (fun _ => 0))), (qa 36, .inl (cI, 4, .inl (fun _ => 0))), (qa 37, .inl (cI, 4, .inl (fun _ => 0))), (qa 38, .inl (cI, 4, .inl (fun _ => 0))), (qa 39, .inl (cI, 4, .inl (fun _ => 0))), (qa 40, .inl (cI, 4, .inl (upd (fun _ => 0) cv 0))), (qa 41, .inl (cI, 4, .inl (fun _ => 0))), (qa 42, .inl (cI, 4, .inl (fun _ => 0))), (qa 43, .inl (cI, 4, .inl (fun _ => 0))), (qa 44, .inl (cI, 4, .inl (fun _ => 0))), (qa 45, .inl (cI, 4, .inl (fun _ => 0))), (qa 46, .inl (cI, 4, .inl (fun _ => 0))), (qa 47, .inl (cI, 4, .inl (fun _ => 0))), (qa 48, .inl (cI, 4, .inl (fun _ => 0))), (qa 49, .inl (cI, 4, .inl (fun _ => 0))), (qa 50, .inl (cJ, 4, .inr (.inl (fun _ => 0)))), (qa 51, .inl (cZ, 4, .inl (fun _ => 0)))] H := hP
  have hD : va_D A [(h, .inr (10, mdF qa x0 x2 x3 x4 x13 x14 x15 x16 x17 x18 x19 x20 x21 x22 x23 x24 x26 x27 x28)), (qa 31, .inl (cI, 4, .inl (fun _ => 0))), (qa 32, .inl (cI, 4, .inl (fun _ => 0))), (qa 33, .inl (cI, 4, .inl (fun _ => 0))), (qa 34, .inl (cI, 4, .inl (fun _ => 0))), (qa 35, .inl (cI, 4, .inl (fun _ => 0))), (qa 36, .inl (cI, 4, .inl (fun _ => 0))), (qa 37, .inl (cI, 4, .inl (fun _ => 0))), (qa 38, .inl (cI, 4, .inl (fun _ => 0))), (qa 39, .inl (cI, 4, .inl (fun _ => 0))), (qa 40, .inl (cI, 4, .inl (upd (fun _ => 0) cv 0))), (qa 41, .inl (cI, 4, .inl (fun _ => 0))), (qa 42, .inl (cI, 4, .inl (fun _ => 0))), (qa 43, .inl (cI, 4, .inl (fun _ => 0))), (qa 44, .inl (cI, 4, .inl (fun _ => 0))), (qa 45, .inl (cI, 4, .inl (fun _ => 0))), (qa 46, .inl (cI, 4, .inl (fun _ => 0))), (qa 47, .inl (cI, 4, .inl (fun _ => 0))), (qa 48, .inl (cI, 4, .inl (fun _ => 0))), (qa 49, .inl (cI, 4, .inl (fun _ => 0))), (qa 50, .inl (cJ, 4, .inr (.inl (fun _ => 0)))), (qa 51, .inl (cZ, 4, .inl (fun _ => 0)))] := hD
  have hfe_69 : upd (fun _ => 0) cv 0 = fun _ => 0 := upd_z cv
  rw [hfe_69] at hP hD
  refine lv_aload_n hx hb dX11_silence_70 rfl (lv_at hl 0 rfl) ?_
  refine va_get (D := (dC, dI)) (ci := 10) (v := .ref (qa 41)) (C := RX11) (T := TX11) (N := 53) hx hb hts iwX11 hown hK hP 0 rfl rfl 41 (by decide) (hts (.fieldLink RX11 86 "ModulePlayerModel" "trem" "[I") (List.mem_cons_of_mem _ kw_197)) (fun _ h9 => h9) rfl dX11_silence_71 ?_
  refine lv_iload_n hx hb dX11_silence_74 rfl (lv_at hl 1 rfl) ?_
  refine lv_iconst (v := 0) hx hb dX11_silence_75 (by decide) ?_
  refine g_iast hx hb hK hP hD hS 11 0 rfl rfl cv (nI_clamp (Nat.lt_trans (show cv < 4 from hcv) (by decide))) (vp_in_nI (hcv) (by decide)) dX11_silence_76 (fun H locs hP hD hS => ?_)
  have hP : va_P (dC, dI) vwCl [(h, .inr (10, mdF qa x0 x2 x3 x4 x13 x14 x15 x16 x17 x18 x19 x20 x21 x22 x23 x24 x26 x27 x28)), (qa 31, .inl (cI, 4, .inl (fun _ => 0))), (qa 32, .inl (cI, 4, .inl (fun _ => 0))), (qa 33, .inl (cI, 4, .inl (fun _ => 0))), (qa 34, .inl (cI, 4, .inl (fun _ => 0))), (qa 35, .inl (cI, 4, .inl (fun _ => 0))), (qa 36, .inl (cI, 4, .inl (fun _ => 0))), (qa 37, .inl (cI, 4, .inl (fun _ => 0))), (qa 38, .inl (cI, 4, .inl (fun _ => 0))), (qa 39, .inl (cI, 4, .inl (fun _ => 0))), (qa 40, .inl (cI, 4, .inl (fun _ => 0))), (qa 41, .inl (cI, 4, .inl (upd (fun _ => 0) cv 0))), (qa 42, .inl (cI, 4, .inl (fun _ => 0))), (qa 43, .inl (cI, 4, .inl (fun _ => 0))), (qa 44, .inl (cI, 4, .inl (fun _ => 0))), (qa 45, .inl (cI, 4, .inl (fun _ => 0))), (qa 46, .inl (cI, 4, .inl (fun _ => 0))), (qa 47, .inl (cI, 4, .inl (fun _ => 0))), (qa 48, .inl (cI, 4, .inl (fun _ => 0))), (qa 49, .inl (cI, 4, .inl (fun _ => 0))), (qa 50, .inl (cJ, 4, .inr (.inl (fun _ => 0)))), (qa 51, .inl (cZ, 4, .inl (fun _ => 0)))] H := hP
  have hD : va_D A [(h, .inr (10, mdF qa x0 x2 x3 x4 x13 x14 x15 x16 x17 x18 x19 x20 x21 x22 x23 x24 x26 x27 x28)), (qa 31, .inl (cI, 4, .inl (fun _ => 0))), (qa 32, .inl (cI, 4, .inl (fun _ => 0))), (qa 33, .inl (cI, 4, .inl (fun _ => 0))), (qa 34, .inl (cI, 4, .inl (fun _ => 0))), (qa 35, .inl (cI, 4, .inl (fun _ => 0))), (qa 36, .inl (cI, 4, .inl (fun _ => 0))), (qa 37, .inl (cI, 4, .inl (fun _ => 0))), (qa 38, .inl (cI, 4, .inl (fun _ => 0))), (qa 39, .inl (cI, 4, .inl (fun _ => 0))), (qa 40, .inl (cI, 4, .inl (fun _ => 0))), (qa 41, .inl (cI, 4, .inl (upd (fun _ => 0) cv 0))), (qa 42, .inl (cI, 4, .inl (fun _ => 0))), (qa 43, .inl (cI, 4, .inl (fun _ => 0))), (qa 44, .inl (cI, 4, .inl (fun _ => 0))), (qa 45, .inl (cI, 4, .inl (fun _ => 0))), (qa 46, .inl (cI, 4, .inl (fun _ => 0))), (qa 47, .inl (cI, 4, .inl (fun _ => 0))), (qa 48, .inl (cI, 4, .inl (fun _ => 0))), (qa 49, .inl (cI, 4, .inl (fun _ => 0))), (qa 50, .inl (cJ, 4, .inr (.inl (fun _ => 0)))), (qa 51, .inl (cZ, 4, .inl (fun _ => 0)))] := hD
  have hfe_76 : upd (fun _ => 0) cv 0 = fun _ => 0 := upd_z cv
  rw [hfe_76] at hP hD
  refine lv_aload_n hx hb dX11_silence_77 rfl (lv_at hl 0 rfl) ?_
  refine va_get (D := (dC, dI)) (ci := 10) (v := .ref (qa 42)) (C := RX11) (T := TX11) (N := 53) hx hb hts iwX11 hown hK hP 0 rfl rfl 42 (by decide) (hts (.fieldLink RX11 89 "ModulePlayerModel" "tremPlace" "[I") (List.mem_cons_of_mem _ kw_198)) (fun _ h9 => h9) rfl dX11_silence_78 ?_
  refine lv_iload_n hx hb dX11_silence_81 rfl (lv_at hl 1 rfl) ?_
  refine lv_iconst (v := 0) hx hb dX11_silence_82 (by decide) ?_
  refine g_iast hx hb hK hP hD hS 12 0 rfl rfl cv (nI_clamp (Nat.lt_trans (show cv < 4 from hcv) (by decide))) (vp_in_nI (hcv) (by decide)) dX11_silence_83 (fun H locs hP hD hS => ?_)
  have hP : va_P (dC, dI) vwCl [(h, .inr (10, mdF qa x0 x2 x3 x4 x13 x14 x15 x16 x17 x18 x19 x20 x21 x22 x23 x24 x26 x27 x28)), (qa 31, .inl (cI, 4, .inl (fun _ => 0))), (qa 32, .inl (cI, 4, .inl (fun _ => 0))), (qa 33, .inl (cI, 4, .inl (fun _ => 0))), (qa 34, .inl (cI, 4, .inl (fun _ => 0))), (qa 35, .inl (cI, 4, .inl (fun _ => 0))), (qa 36, .inl (cI, 4, .inl (fun _ => 0))), (qa 37, .inl (cI, 4, .inl (fun _ => 0))), (qa 38, .inl (cI, 4, .inl (fun _ => 0))), (qa 39, .inl (cI, 4, .inl (fun _ => 0))), (qa 40, .inl (cI, 4, .inl (fun _ => 0))), (qa 41, .inl (cI, 4, .inl (fun _ => 0))), (qa 42, .inl (cI, 4, .inl (upd (fun _ => 0) cv 0))), (qa 43, .inl (cI, 4, .inl (fun _ => 0))), (qa 44, .inl (cI, 4, .inl (fun _ => 0))), (qa 45, .inl (cI, 4, .inl (fun _ => 0))), (qa 46, .inl (cI, 4, .inl (fun _ => 0))), (qa 47, .inl (cI, 4, .inl (fun _ => 0))), (qa 48, .inl (cI, 4, .inl (fun _ => 0))), (qa 49, .inl (cI, 4, .inl (fun _ => 0))), (qa 50, .inl (cJ, 4, .inr (.inl (fun _ => 0)))), (qa 51, .inl (cZ, 4, .inl (fun _ => 0)))] H := hP
  have hD : va_D A [(h, .inr (10, mdF qa x0 x2 x3 x4 x13 x14 x15 x16 x17 x18 x19 x20 x21 x22 x23 x24 x26 x27 x28)), (qa 31, .inl (cI, 4, .inl (fun _ => 0))), (qa 32, .inl (cI, 4, .inl (fun _ => 0))), (qa 33, .inl (cI, 4, .inl (fun _ => 0))), (qa 34, .inl (cI, 4, .inl (fun _ => 0))), (qa 35, .inl (cI, 4, .inl (fun _ => 0))), (qa 36, .inl (cI, 4, .inl (fun _ => 0))), (qa 37, .inl (cI, 4, .inl (fun _ => 0))), (qa 38, .inl (cI, 4, .inl (fun _ => 0))), (qa 39, .inl (cI, 4, .inl (fun _ => 0))), (qa 40, .inl (cI, 4, .inl (fun _ => 0))), (qa 41, .inl (cI, 4, .inl (fun _ => 0))), (qa 42, .inl (cI, 4, .inl (upd (fun _ => 0) cv 0))), (qa 43, .inl (cI, 4, .inl (fun _ => 0))), (qa 44, .inl (cI, 4, .inl (fun _ => 0))), (qa 45, .inl (cI, 4, .inl (fun _ => 0))), (qa 46, .inl (cI, 4, .inl (fun _ => 0))), (qa 47, .inl (cI, 4, .inl (fun _ => 0))), (qa 48, .inl (cI, 4, .inl (fun _ => 0))), (qa 49, .inl (cI, 4, .inl (fun _ => 0))), (qa 50, .inl (cJ, 4, .inr (.inl (fun _ => 0)))), (qa 51, .inl (cZ, 4, .inl (fun _ => 0)))] := hD
  have hfe_83 : upd (fun _ => 0) cv 0 = fun _ => 0 := upd_z cv
  rw [hfe_83] at hP hD
  refine lv_aload_n hx hb dX11_silence_84 rfl (lv_at hl 0 rfl) ?_
  refine va_get (D := (dC, dI)) (ci := 10) (v := .ref (qa 43)) (C := RX11) (T := TX11) (N := 53) hx hb hts iwX11 hown hK hP 0 rfl rfl 43 (by decide) (hts (.fieldLink RX11 92 "ModulePlayerModel" "tremForm" "[I") (List.mem_cons_of_mem _ kw_199)) (fun _ h9 => h9) rfl dX11_silence_85 ?_
  refine lv_iload_n hx hb dX11_silence_88 rfl (lv_at hl 1 rfl) ?_
  refine lv_iconst (v := 0) hx hb dX11_silence_89 (by decide) ?_
  refine g_iast hx hb hK hP hD hS 13 0 rfl rfl cv (nI_clamp (Nat.lt_trans (show cv < 4 from hcv) (by decide))) (vp_in_nI (hcv) (by decide)) dX11_silence_90 (fun H locs hP hD hS => ?_)
  have hP : va_P (dC, dI) vwCl [(h, .inr (10, mdF qa x0 x2 x3 x4 x13 x14 x15 x16 x17 x18 x19 x20 x21 x22 x23 x24 x26 x27 x28)), (qa 31, .inl (cI, 4, .inl (fun _ => 0))), (qa 32, .inl (cI, 4, .inl (fun _ => 0))), (qa 33, .inl (cI, 4, .inl (fun _ => 0))), (qa 34, .inl (cI, 4, .inl (fun _ => 0))), (qa 35, .inl (cI, 4, .inl (fun _ => 0))), (qa 36, .inl (cI, 4, .inl (fun _ => 0))), (qa 37, .inl (cI, 4, .inl (fun _ => 0))), (qa 38, .inl (cI, 4, .inl (fun _ => 0))), (qa 39, .inl (cI, 4, .inl (fun _ => 0))), (qa 40, .inl (cI, 4, .inl (fun _ => 0))), (qa 41, .inl (cI, 4, .inl (fun _ => 0))), (qa 42, .inl (cI, 4, .inl (fun _ => 0))), (qa 43, .inl (cI, 4, .inl (upd (fun _ => 0) cv 0))), (qa 44, .inl (cI, 4, .inl (fun _ => 0))), (qa 45, .inl (cI, 4, .inl (fun _ => 0))), (qa 46, .inl (cI, 4, .inl (fun _ => 0))), (qa 47, .inl (cI, 4, .inl (fun _ => 0))), (qa 48, .inl (cI, 4, .inl (fun _ => 0))), (qa 49, .inl (cI, 4, .inl (fun _ => 0))), (qa 50, .inl (cJ, 4, .inr (.inl (fun _ => 0)))), (qa 51, .inl (cZ, 4, .inl (fun _ => 0)))] H := hP
  have hD : va_D A [(h, .inr (10, mdF qa x0 x2 x3 x4 x13 x14 x15 x16 x17 x18 x19 x20 x21 x22 x23 x24 x26 x27 x28)), (qa 31, .inl (cI, 4, .inl (fun _ => 0))), (qa 32, .inl (cI, 4, .inl (fun _ => 0))), (qa 33, .inl (cI, 4, .inl (fun _ => 0))), (qa 34, .inl (cI, 4, .inl (fun _ => 0))), (qa 35, .inl (cI, 4, .inl (fun _ => 0))), (qa 36, .inl (cI, 4, .inl (fun _ => 0))), (qa 37, .inl (cI, 4, .inl (fun _ => 0))), (qa 38, .inl (cI, 4, .inl (fun _ => 0))), (qa 39, .inl (cI, 4, .inl (fun _ => 0))), (qa 40, .inl (cI, 4, .inl (fun _ => 0))), (qa 41, .inl (cI, 4, .inl (fun _ => 0))), (qa 42, .inl (cI, 4, .inl (fun _ => 0))), (qa 43, .inl (cI, 4, .inl (upd (fun _ => 0) cv 0))), (qa 44, .inl (cI, 4, .inl (fun _ => 0))), (qa 45, .inl (cI, 4, .inl (fun _ => 0))), (qa 46, .inl (cI, 4, .inl (fun _ => 0))), (qa 47, .inl (cI, 4, .inl (fun _ => 0))), (qa 48, .inl (cI, 4, .inl (fun _ => 0))), (qa 49, .inl (cI, 4, .inl (fun _ => 0))), (qa 50, .inl (cJ, 4, .inr (.inl (fun _ => 0)))), (qa 51, .inl (cZ, 4, .inl (fun _ => 0)))] := hD
  have hfe_90 : upd (fun _ => 0) cv 0 = fun _ => 0 := upd_z cv
  rw [hfe_90] at hP hD
  refine lv_aload_n hx hb dX11_silence_91 rfl (lv_at hl 0 rfl) ?_
  refine va_get (D := (dC, dI)) (ci := 10) (v := .ref (qa 44)) (C := RX11) (T := TX11) (N := 53) hx hb hts iwX11 hown hK hP 0 rfl rfl 44 (by decide) (hts (.fieldLink RX11 95 "ModulePlayerModel" "offset" "[I") (List.mem_cons_of_mem _ kw_200)) (fun _ h9 => h9) rfl dX11_silence_92 ?_
  refine lv_iload_n hx hb dX11_silence_95 rfl (lv_at hl 1 rfl) ?_
  refine lv_iconst (v := 0) hx hb dX11_silence_96 (by decide) ?_
  refine g_iast hx hb hK hP hD hS 14 0 rfl rfl cv (nI_clamp (Nat.lt_trans (show cv < 4 from hcv) (by decide))) (vp_in_nI (hcv) (by decide)) dX11_silence_97 (fun H locs hP hD hS => ?_)
  have hP : va_P (dC, dI) vwCl [(h, .inr (10, mdF qa x0 x2 x3 x4 x13 x14 x15 x16 x17 x18 x19 x20 x21 x22 x23 x24 x26 x27 x28)), (qa 31, .inl (cI, 4, .inl (fun _ => 0))), (qa 32, .inl (cI, 4, .inl (fun _ => 0))), (qa 33, .inl (cI, 4, .inl (fun _ => 0))), (qa 34, .inl (cI, 4, .inl (fun _ => 0))), (qa 35, .inl (cI, 4, .inl (fun _ => 0))), (qa 36, .inl (cI, 4, .inl (fun _ => 0))), (qa 37, .inl (cI, 4, .inl (fun _ => 0))), (qa 38, .inl (cI, 4, .inl (fun _ => 0))), (qa 39, .inl (cI, 4, .inl (fun _ => 0))), (qa 40, .inl (cI, 4, .inl (fun _ => 0))), (qa 41, .inl (cI, 4, .inl (fun _ => 0))), (qa 42, .inl (cI, 4, .inl (fun _ => 0))), (qa 43, .inl (cI, 4, .inl (fun _ => 0))), (qa 44, .inl (cI, 4, .inl (upd (fun _ => 0) cv 0))), (qa 45, .inl (cI, 4, .inl (fun _ => 0))), (qa 46, .inl (cI, 4, .inl (fun _ => 0))), (qa 47, .inl (cI, 4, .inl (fun _ => 0))), (qa 48, .inl (cI, 4, .inl (fun _ => 0))), (qa 49, .inl (cI, 4, .inl (fun _ => 0))), (qa 50, .inl (cJ, 4, .inr (.inl (fun _ => 0)))), (qa 51, .inl (cZ, 4, .inl (fun _ => 0)))] H := hP
  have hD : va_D A [(h, .inr (10, mdF qa x0 x2 x3 x4 x13 x14 x15 x16 x17 x18 x19 x20 x21 x22 x23 x24 x26 x27 x28)), (qa 31, .inl (cI, 4, .inl (fun _ => 0))), (qa 32, .inl (cI, 4, .inl (fun _ => 0))), (qa 33, .inl (cI, 4, .inl (fun _ => 0))), (qa 34, .inl (cI, 4, .inl (fun _ => 0))), (qa 35, .inl (cI, 4, .inl (fun _ => 0))), (qa 36, .inl (cI, 4, .inl (fun _ => 0))), (qa 37, .inl (cI, 4, .inl (fun _ => 0))), (qa 38, .inl (cI, 4, .inl (fun _ => 0))), (qa 39, .inl (cI, 4, .inl (fun _ => 0))), (qa 40, .inl (cI, 4, .inl (fun _ => 0))), (qa 41, .inl (cI, 4, .inl (fun _ => 0))), (qa 42, .inl (cI, 4, .inl (fun _ => 0))), (qa 43, .inl (cI, 4, .inl (fun _ => 0))), (qa 44, .inl (cI, 4, .inl (upd (fun _ => 0) cv 0))), (qa 45, .inl (cI, 4, .inl (fun _ => 0))), (qa 46, .inl (cI, 4, .inl (fun _ => 0))), (qa 47, .inl (cI, 4, .inl (fun _ => 0))), (qa 48, .inl (cI, 4, .inl (fun _ => 0))), (qa 49, .inl (cI, 4, .inl (fun _ => 0))), (qa 50, .inl (cJ, 4, .inr (.inl (fun _ => 0)))), (qa 51, .inl (cZ, 4, .inl (fun _ => 0)))] := hD
  have hfe_97 : upd (fun _ => 0) cv 0 = fun _ => 0 := upd_z cv
  rw [hfe_97] at hP hD
  refine lv_aload_n hx hb dX11_silence_98 rfl (lv_at hl 0 rfl) ?_
  refine va_get (D := (dC, dI)) (ci := 10) (v := .ref (qa 45)) (C := RX11) (T := TX11) (N := 53) hx hb hts iwX11 hown hK hP 0 rfl rfl 45 (by decide) (hts (.fieldLink RX11 98 "ModulePlayerModel" "loopRow" "[I") (List.mem_cons_of_mem _ kw_201)) (fun _ h9 => h9) rfl dX11_silence_99 ?_
  refine lv_iload_n hx hb dX11_silence_102 rfl (lv_at hl 1 rfl) ?_
  refine lv_iconst (v := 0) hx hb dX11_silence_103 (by decide) ?_
  refine g_iast hx hb hK hP hD hS 15 0 rfl rfl cv (nI_clamp (Nat.lt_trans (show cv < 4 from hcv) (by decide))) (vp_in_nI (hcv) (by decide)) dX11_silence_104 (fun H locs hP hD hS => ?_)
  have hP : va_P (dC, dI) vwCl [(h, .inr (10, mdF qa x0 x2 x3 x4 x13 x14 x15 x16 x17 x18 x19 x20 x21 x22 x23 x24 x26 x27 x28)), (qa 31, .inl (cI, 4, .inl (fun _ => 0))), (qa 32, .inl (cI, 4, .inl (fun _ => 0))), (qa 33, .inl (cI, 4, .inl (fun _ => 0))), (qa 34, .inl (cI, 4, .inl (fun _ => 0))), (qa 35, .inl (cI, 4, .inl (fun _ => 0))), (qa 36, .inl (cI, 4, .inl (fun _ => 0))), (qa 37, .inl (cI, 4, .inl (fun _ => 0))), (qa 38, .inl (cI, 4, .inl (fun _ => 0))), (qa 39, .inl (cI, 4, .inl (fun _ => 0))), (qa 40, .inl (cI, 4, .inl (fun _ => 0))), (qa 41, .inl (cI, 4, .inl (fun _ => 0))), (qa 42, .inl (cI, 4, .inl (fun _ => 0))), (qa 43, .inl (cI, 4, .inl (fun _ => 0))), (qa 44, .inl (cI, 4, .inl (fun _ => 0))), (qa 45, .inl (cI, 4, .inl (upd (fun _ => 0) cv 0))), (qa 46, .inl (cI, 4, .inl (fun _ => 0))), (qa 47, .inl (cI, 4, .inl (fun _ => 0))), (qa 48, .inl (cI, 4, .inl (fun _ => 0))), (qa 49, .inl (cI, 4, .inl (fun _ => 0))), (qa 50, .inl (cJ, 4, .inr (.inl (fun _ => 0)))), (qa 51, .inl (cZ, 4, .inl (fun _ => 0)))] H := hP
  have hD : va_D A [(h, .inr (10, mdF qa x0 x2 x3 x4 x13 x14 x15 x16 x17 x18 x19 x20 x21 x22 x23 x24 x26 x27 x28)), (qa 31, .inl (cI, 4, .inl (fun _ => 0))), (qa 32, .inl (cI, 4, .inl (fun _ => 0))), (qa 33, .inl (cI, 4, .inl (fun _ => 0))), (qa 34, .inl (cI, 4, .inl (fun _ => 0))), (qa 35, .inl (cI, 4, .inl (fun _ => 0))), (qa 36, .inl (cI, 4, .inl (fun _ => 0))), (qa 37, .inl (cI, 4, .inl (fun _ => 0))), (qa 38, .inl (cI, 4, .inl (fun _ => 0))), (qa 39, .inl (cI, 4, .inl (fun _ => 0))), (qa 40, .inl (cI, 4, .inl (fun _ => 0))), (qa 41, .inl (cI, 4, .inl (fun _ => 0))), (qa 42, .inl (cI, 4, .inl (fun _ => 0))), (qa 43, .inl (cI, 4, .inl (fun _ => 0))), (qa 44, .inl (cI, 4, .inl (fun _ => 0))), (qa 45, .inl (cI, 4, .inl (upd (fun _ => 0) cv 0))), (qa 46, .inl (cI, 4, .inl (fun _ => 0))), (qa 47, .inl (cI, 4, .inl (fun _ => 0))), (qa 48, .inl (cI, 4, .inl (fun _ => 0))), (qa 49, .inl (cI, 4, .inl (fun _ => 0))), (qa 50, .inl (cJ, 4, .inr (.inl (fun _ => 0)))), (qa 51, .inl (cZ, 4, .inl (fun _ => 0)))] := hD
  have hfe_104 : upd (fun _ => 0) cv 0 = fun _ => 0 := upd_z cv
  rw [hfe_104] at hP hD
  refine lv_aload_n hx hb dX11_silence_105 rfl (lv_at hl 0 rfl) ?_
  refine va_get (D := (dC, dI)) (ci := 10) (v := .ref (qa 46)) (C := RX11) (T := TX11) (N := 53) hx hb hts iwX11 hown hK hP 0 rfl rfl 46 (by decide) (hts (.fieldLink RX11 101 "ModulePlayerModel" "loopLeft" "[I") (List.mem_cons_of_mem _ kw_202)) (fun _ h9 => h9) rfl dX11_silence_106 ?_
  refine lv_iload_n hx hb dX11_silence_109 rfl (lv_at hl 1 rfl) ?_
  refine lv_iconst (v := 0) hx hb dX11_silence_110 (by decide) ?_
  refine g_iast hx hb hK hP hD hS 16 0 rfl rfl cv (nI_clamp (Nat.lt_trans (show cv < 4 from hcv) (by decide))) (vp_in_nI (hcv) (by decide)) dX11_silence_111 (fun H locs hP hD hS => ?_)
  have hP : va_P (dC, dI) vwCl [(h, .inr (10, mdF qa x0 x2 x3 x4 x13 x14 x15 x16 x17 x18 x19 x20 x21 x22 x23 x24 x26 x27 x28)), (qa 31, .inl (cI, 4, .inl (fun _ => 0))), (qa 32, .inl (cI, 4, .inl (fun _ => 0))), (qa 33, .inl (cI, 4, .inl (fun _ => 0))), (qa 34, .inl (cI, 4, .inl (fun _ => 0))), (qa 35, .inl (cI, 4, .inl (fun _ => 0))), (qa 36, .inl (cI, 4, .inl (fun _ => 0))), (qa 37, .inl (cI, 4, .inl (fun _ => 0))), (qa 38, .inl (cI, 4, .inl (fun _ => 0))), (qa 39, .inl (cI, 4, .inl (fun _ => 0))), (qa 40, .inl (cI, 4, .inl (fun _ => 0))), (qa 41, .inl (cI, 4, .inl (fun _ => 0))), (qa 42, .inl (cI, 4, .inl (fun _ => 0))), (qa 43, .inl (cI, 4, .inl (fun _ => 0))), (qa 44, .inl (cI, 4, .inl (fun _ => 0))), (qa 45, .inl (cI, 4, .inl (fun _ => 0))), (qa 46, .inl (cI, 4, .inl (upd (fun _ => 0) cv 0))), (qa 47, .inl (cI, 4, .inl (fun _ => 0))), (qa 48, .inl (cI, 4, .inl (fun _ => 0))), (qa 49, .inl (cI, 4, .inl (fun _ => 0))), (qa 50, .inl (cJ, 4, .inr (.inl (fun _ => 0)))), (qa 51, .inl (cZ, 4, .inl (fun _ => 0)))] H := hP
  have hD : va_D A [(h, .inr (10, mdF qa x0 x2 x3 x4 x13 x14 x15 x16 x17 x18 x19 x20 x21 x22 x23 x24 x26 x27 x28)), (qa 31, .inl (cI, 4, .inl (fun _ => 0))), (qa 32, .inl (cI, 4, .inl (fun _ => 0))), (qa 33, .inl (cI, 4, .inl (fun _ => 0))), (qa 34, .inl (cI, 4, .inl (fun _ => 0))), (qa 35, .inl (cI, 4, .inl (fun _ => 0))), (qa 36, .inl (cI, 4, .inl (fun _ => 0))), (qa 37, .inl (cI, 4, .inl (fun _ => 0))), (qa 38, .inl (cI, 4, .inl (fun _ => 0))), (qa 39, .inl (cI, 4, .inl (fun _ => 0))), (qa 40, .inl (cI, 4, .inl (fun _ => 0))), (qa 41, .inl (cI, 4, .inl (fun _ => 0))), (qa 42, .inl (cI, 4, .inl (fun _ => 0))), (qa 43, .inl (cI, 4, .inl (fun _ => 0))), (qa 44, .inl (cI, 4, .inl (fun _ => 0))), (qa 45, .inl (cI, 4, .inl (fun _ => 0))), (qa 46, .inl (cI, 4, .inl (upd (fun _ => 0) cv 0))), (qa 47, .inl (cI, 4, .inl (fun _ => 0))), (qa 48, .inl (cI, 4, .inl (fun _ => 0))), (qa 49, .inl (cI, 4, .inl (fun _ => 0))), (qa 50, .inl (cJ, 4, .inr (.inl (fun _ => 0)))), (qa 51, .inl (cZ, 4, .inl (fun _ => 0)))] := hD
  have hfe_111 : upd (fun _ => 0) cv 0 = fun _ => 0 := upd_z cv
  rw [hfe_111] at hP hD
  refine lv_aload_n hx hb dX11_silence_112 rfl (lv_at hl 0 rfl) ?_
  refine va_get (D := (dC, dI)) (ci := 10) (v := .ref (qa 47)) (C := RX11) (T := TX11) (N := 53) hx hb hts iwX11 hown hK hP 0 rfl rfl 47 (by decide) (hts (.fieldLink RX11 104 "ModulePlayerModel" "cell" "[I") (List.mem_cons_of_mem _ kw_203)) (fun _ h9 => h9) rfl dX11_silence_113 ?_
  refine lv_iload_n hx hb dX11_silence_116 rfl (lv_at hl 1 rfl) ?_
  refine lv_iconst (v := 0) hx hb dX11_silence_117 (by decide) ?_
  refine g_iast hx hb hK hP hD hS 17 0 rfl rfl cv (nI_clamp (Nat.lt_trans (show cv < 4 from hcv) (by decide))) (vp_in_nI (hcv) (by decide)) dX11_silence_118 (fun H locs hP hD hS => ?_)
  have hP : va_P (dC, dI) vwCl [(h, .inr (10, mdF qa x0 x2 x3 x4 x13 x14 x15 x16 x17 x18 x19 x20 x21 x22 x23 x24 x26 x27 x28)), (qa 31, .inl (cI, 4, .inl (fun _ => 0))), (qa 32, .inl (cI, 4, .inl (fun _ => 0))), (qa 33, .inl (cI, 4, .inl (fun _ => 0))), (qa 34, .inl (cI, 4, .inl (fun _ => 0))), (qa 35, .inl (cI, 4, .inl (fun _ => 0))), (qa 36, .inl (cI, 4, .inl (fun _ => 0))), (qa 37, .inl (cI, 4, .inl (fun _ => 0))), (qa 38, .inl (cI, 4, .inl (fun _ => 0))), (qa 39, .inl (cI, 4, .inl (fun _ => 0))), (qa 40, .inl (cI, 4, .inl (fun _ => 0))), (qa 41, .inl (cI, 4, .inl (fun _ => 0))), (qa 42, .inl (cI, 4, .inl (fun _ => 0))), (qa 43, .inl (cI, 4, .inl (fun _ => 0))), (qa 44, .inl (cI, 4, .inl (fun _ => 0))), (qa 45, .inl (cI, 4, .inl (fun _ => 0))), (qa 46, .inl (cI, 4, .inl (fun _ => 0))), (qa 47, .inl (cI, 4, .inl (upd (fun _ => 0) cv 0))), (qa 48, .inl (cI, 4, .inl (fun _ => 0))), (qa 49, .inl (cI, 4, .inl (fun _ => 0))), (qa 50, .inl (cJ, 4, .inr (.inl (fun _ => 0)))), (qa 51, .inl (cZ, 4, .inl (fun _ => 0)))] H := hP
  have hD : va_D A [(h, .inr (10, mdF qa x0 x2 x3 x4 x13 x14 x15 x16 x17 x18 x19 x20 x21 x22 x23 x24 x26 x27 x28)), (qa 31, .inl (cI, 4, .inl (fun _ => 0))), (qa 32, .inl (cI, 4, .inl (fun _ => 0))), (qa 33, .inl (cI, 4, .inl (fun _ => 0))), (qa 34, .inl (cI, 4, .inl (fun _ => 0))), (qa 35, .inl (cI, 4, .inl (fun _ => 0))), (qa 36, .inl (cI, 4, .inl (fun _ => 0))), (qa 37, .inl (cI, 4, .inl (fun _ => 0))), (qa 38, .inl (cI, 4, .inl (fun _ => 0))), (qa 39, .inl (cI, 4, .inl (fun _ => 0))), (qa 40, .inl (cI, 4, .inl (fun _ => 0))), (qa 41, .inl (cI, 4, .inl (fun _ => 0))), (qa 42, .inl (cI, 4, .inl (fun _ => 0))), (qa 43, .inl (cI, 4, .inl (fun _ => 0))), (qa 44, .inl (cI, 4, .inl (fun _ => 0))), (qa 45, .inl (cI, 4, .inl (fun _ => 0))), (qa 46, .inl (cI, 4, .inl (fun _ => 0))), (qa 47, .inl (cI, 4, .inl (upd (fun _ => 0) cv 0))), (qa 48, .inl (cI, 4, .inl (fun _ => 0))), (qa 49, .inl (cI, 4, .inl (fun _ => 0))), (qa 50, .inl (cJ, 4, .inr (.inl (fun _ => 0)))), (qa 51, .inl (cZ, 4, .inl (fun _ => 0)))] := hD
  have hfe_118 : upd (fun _ => 0) cv 0 = fun _ => 0 := upd_z cv
  rw [hfe_118] at hP hD
  refine lv_aload_n hx hb dX11_silence_119 rfl (lv_at hl 0 rfl) ?_
  refine va_get (D := (dC, dI)) (ci := 10) (v := .ref (qa 48)) (C := RX11) (T := TX11) (N := 53) hx hb hts iwX11 hown hK hP 0 rfl rfl 48 (by decide) (hts (.fieldLink RX11 107 "ModulePlayerModel" "soundPeriod" "[I") (List.mem_cons_of_mem _ kw_204)) (fun _ h9 => h9) rfl dX11_silence_120 ?_
  refine lv_iload_n hx hb dX11_silence_123 rfl (lv_at hl 1 rfl) ?_
  refine lv_iconst (v := 0) hx hb dX11_silence_124 (by decide) ?_
  refine g_iast hx hb hK hP hD hS 18 0 rfl rfl cv (nI_clamp (Nat.lt_trans (show cv < 4 from hcv) (by decide))) (vp_in_nI (hcv) (by decide)) dX11_silence_125 (fun H locs hP hD hS => ?_)
  have hP : va_P (dC, dI) vwCl [(h, .inr (10, mdF qa x0 x2 x3 x4 x13 x14 x15 x16 x17 x18 x19 x20 x21 x22 x23 x24 x26 x27 x28)), (qa 31, .inl (cI, 4, .inl (fun _ => 0))), (qa 32, .inl (cI, 4, .inl (fun _ => 0))), (qa 33, .inl (cI, 4, .inl (fun _ => 0))), (qa 34, .inl (cI, 4, .inl (fun _ => 0))), (qa 35, .inl (cI, 4, .inl (fun _ => 0))), (qa 36, .inl (cI, 4, .inl (fun _ => 0))), (qa 37, .inl (cI, 4, .inl (fun _ => 0))), (qa 38, .inl (cI, 4, .inl (fun _ => 0))), (qa 39, .inl (cI, 4, .inl (fun _ => 0))), (qa 40, .inl (cI, 4, .inl (fun _ => 0))), (qa 41, .inl (cI, 4, .inl (fun _ => 0))), (qa 42, .inl (cI, 4, .inl (fun _ => 0))), (qa 43, .inl (cI, 4, .inl (fun _ => 0))), (qa 44, .inl (cI, 4, .inl (fun _ => 0))), (qa 45, .inl (cI, 4, .inl (fun _ => 0))), (qa 46, .inl (cI, 4, .inl (fun _ => 0))), (qa 47, .inl (cI, 4, .inl (fun _ => 0))), (qa 48, .inl (cI, 4, .inl (upd (fun _ => 0) cv 0))), (qa 49, .inl (cI, 4, .inl (fun _ => 0))), (qa 50, .inl (cJ, 4, .inr (.inl (fun _ => 0)))), (qa 51, .inl (cZ, 4, .inl (fun _ => 0)))] H := hP
  have hD : va_D A [(h, .inr (10, mdF qa x0 x2 x3 x4 x13 x14 x15 x16 x17 x18 x19 x20 x21 x22 x23 x24 x26 x27 x28)), (qa 31, .inl (cI, 4, .inl (fun _ => 0))), (qa 32, .inl (cI, 4, .inl (fun _ => 0))), (qa 33, .inl (cI, 4, .inl (fun _ => 0))), (qa 34, .inl (cI, 4, .inl (fun _ => 0))), (qa 35, .inl (cI, 4, .inl (fun _ => 0))), (qa 36, .inl (cI, 4, .inl (fun _ => 0))), (qa 37, .inl (cI, 4, .inl (fun _ => 0))), (qa 38, .inl (cI, 4, .inl (fun _ => 0))), (qa 39, .inl (cI, 4, .inl (fun _ => 0))), (qa 40, .inl (cI, 4, .inl (fun _ => 0))), (qa 41, .inl (cI, 4, .inl (fun _ => 0))), (qa 42, .inl (cI, 4, .inl (fun _ => 0))), (qa 43, .inl (cI, 4, .inl (fun _ => 0))), (qa 44, .inl (cI, 4, .inl (fun _ => 0))), (qa 45, .inl (cI, 4, .inl (fun _ => 0))), (qa 46, .inl (cI, 4, .inl (fun _ => 0))), (qa 47, .inl (cI, 4, .inl (fun _ => 0))), (qa 48, .inl (cI, 4, .inl (upd (fun _ => 0) cv 0))), (qa 49, .inl (cI, 4, .inl (fun _ => 0))), (qa 50, .inl (cJ, 4, .inr (.inl (fun _ => 0)))), (qa 51, .inl (cZ, 4, .inl (fun _ => 0)))] := hD
  have hfe_125 : upd (fun _ => 0) cv 0 = fun _ => 0 := upd_z cv
  rw [hfe_125] at hP hD
  refine lv_aload_n hx hb dX11_silence_126 rfl (lv_at hl 0 rfl) ?_
  refine va_get (D := (dC, dI)) (ci := 10) (v := .ref (qa 49)) (C := RX11) (T := TX11) (N := 53) hx hb hts iwX11 hown hK hP 0 rfl rfl 49 (by decide) (hts (.fieldLink RX11 110 "ModulePlayerModel" "soundVolume" "[I") (List.mem_cons_of_mem _ kw_205)) (fun _ h9 => h9) rfl dX11_silence_127 ?_
  refine lv_iload_n hx hb dX11_silence_130 rfl (lv_at hl 1 rfl) ?_
  refine lv_iconst (v := 0) hx hb dX11_silence_131 (by decide) ?_
  refine g_iast hx hb hK hP hD hS 19 0 rfl rfl cv (nI_clamp (Nat.lt_trans (show cv < 4 from hcv) (by decide))) (vp_in_nI (hcv) (by decide)) dX11_silence_132 (fun H locs hP hD hS => ?_)
  have hP : va_P (dC, dI) vwCl [(h, .inr (10, mdF qa x0 x2 x3 x4 x13 x14 x15 x16 x17 x18 x19 x20 x21 x22 x23 x24 x26 x27 x28)), (qa 31, .inl (cI, 4, .inl (fun _ => 0))), (qa 32, .inl (cI, 4, .inl (fun _ => 0))), (qa 33, .inl (cI, 4, .inl (fun _ => 0))), (qa 34, .inl (cI, 4, .inl (fun _ => 0))), (qa 35, .inl (cI, 4, .inl (fun _ => 0))), (qa 36, .inl (cI, 4, .inl (fun _ => 0))), (qa 37, .inl (cI, 4, .inl (fun _ => 0))), (qa 38, .inl (cI, 4, .inl (fun _ => 0))), (qa 39, .inl (cI, 4, .inl (fun _ => 0))), (qa 40, .inl (cI, 4, .inl (fun _ => 0))), (qa 41, .inl (cI, 4, .inl (fun _ => 0))), (qa 42, .inl (cI, 4, .inl (fun _ => 0))), (qa 43, .inl (cI, 4, .inl (fun _ => 0))), (qa 44, .inl (cI, 4, .inl (fun _ => 0))), (qa 45, .inl (cI, 4, .inl (fun _ => 0))), (qa 46, .inl (cI, 4, .inl (fun _ => 0))), (qa 47, .inl (cI, 4, .inl (fun _ => 0))), (qa 48, .inl (cI, 4, .inl (fun _ => 0))), (qa 49, .inl (cI, 4, .inl (upd (fun _ => 0) cv 0))), (qa 50, .inl (cJ, 4, .inr (.inl (fun _ => 0)))), (qa 51, .inl (cZ, 4, .inl (fun _ => 0)))] H := hP
  have hD : va_D A [(h, .inr (10, mdF qa x0 x2 x3 x4 x13 x14 x15 x16 x17 x18 x19 x20 x21 x22 x23 x24 x26 x27 x28)), (qa 31, .inl (cI, 4, .inl (fun _ => 0))), (qa 32, .inl (cI, 4, .inl (fun _ => 0))), (qa 33, .inl (cI, 4, .inl (fun _ => 0))), (qa 34, .inl (cI, 4, .inl (fun _ => 0))), (qa 35, .inl (cI, 4, .inl (fun _ => 0))), (qa 36, .inl (cI, 4, .inl (fun _ => 0))), (qa 37, .inl (cI, 4, .inl (fun _ => 0))), (qa 38, .inl (cI, 4, .inl (fun _ => 0))), (qa 39, .inl (cI, 4, .inl (fun _ => 0))), (qa 40, .inl (cI, 4, .inl (fun _ => 0))), (qa 41, .inl (cI, 4, .inl (fun _ => 0))), (qa 42, .inl (cI, 4, .inl (fun _ => 0))), (qa 43, .inl (cI, 4, .inl (fun _ => 0))), (qa 44, .inl (cI, 4, .inl (fun _ => 0))), (qa 45, .inl (cI, 4, .inl (fun _ => 0))), (qa 46, .inl (cI, 4, .inl (fun _ => 0))), (qa 47, .inl (cI, 4, .inl (fun _ => 0))), (qa 48, .inl (cI, 4, .inl (fun _ => 0))), (qa 49, .inl (cI, 4, .inl (upd (fun _ => 0) cv 0))), (qa 50, .inl (cJ, 4, .inr (.inl (fun _ => 0)))), (qa 51, .inl (cZ, 4, .inl (fun _ => 0)))] := hD
  have hfe_132 : upd (fun _ => 0) cv 0 = fun _ => 0 := upd_z cv
  rw [hfe_132] at hP hD
  refine lv_aload_n hx hb dX11_silence_133 rfl (lv_at hl 0 rfl) ?_
  refine va_get (D := (dC, dI)) (ci := 10) (v := .ref (qa 50)) (C := RX11) (T := TX11) (N := 53) hx hb hts iwX11 hown hK hP 0 rfl rfl 50 (by decide) (hts (.fieldLink RX11 113 "ModulePlayerModel" "at" "[J") (List.mem_cons_of_mem _ kw_206)) (fun _ h9 => h9) rfl dX11_silence_134 ?_
  refine lv_iload_n hx hb dX11_silence_137 rfl (lv_at hl 1 rfl) ?_
  refine lv_lconst (v := 0) hx hb dX11_silence_138 (by decide) ?_
  refine g_last hx hb hK hP hD hS 20 1 rfl rfl cv (nI_clamp (Nat.lt_trans (show cv < 4 from hcv) (by decide))) (vp_in_nI (hcv) (by decide)) dX11_silence_139 (fun H locs hP hD hS => ?_)
  have hP : va_P (dC, dI) vwCl [(h, .inr (10, mdF qa x0 x2 x3 x4 x13 x14 x15 x16 x17 x18 x19 x20 x21 x22 x23 x24 x26 x27 x28)), (qa 31, .inl (cI, 4, .inl (fun _ => 0))), (qa 32, .inl (cI, 4, .inl (fun _ => 0))), (qa 33, .inl (cI, 4, .inl (fun _ => 0))), (qa 34, .inl (cI, 4, .inl (fun _ => 0))), (qa 35, .inl (cI, 4, .inl (fun _ => 0))), (qa 36, .inl (cI, 4, .inl (fun _ => 0))), (qa 37, .inl (cI, 4, .inl (fun _ => 0))), (qa 38, .inl (cI, 4, .inl (fun _ => 0))), (qa 39, .inl (cI, 4, .inl (fun _ => 0))), (qa 40, .inl (cI, 4, .inl (fun _ => 0))), (qa 41, .inl (cI, 4, .inl (fun _ => 0))), (qa 42, .inl (cI, 4, .inl (fun _ => 0))), (qa 43, .inl (cI, 4, .inl (fun _ => 0))), (qa 44, .inl (cI, 4, .inl (fun _ => 0))), (qa 45, .inl (cI, 4, .inl (fun _ => 0))), (qa 46, .inl (cI, 4, .inl (fun _ => 0))), (qa 47, .inl (cI, 4, .inl (fun _ => 0))), (qa 48, .inl (cI, 4, .inl (fun _ => 0))), (qa 49, .inl (cI, 4, .inl (fun _ => 0))), (qa 50, .inl (cJ, 4, .inr (.inl (vp_updL (fun _ => 0) cv 0)))), (qa 51, .inl (cZ, 4, .inl (fun _ => 0)))] H := hP
  have hD : va_D A [(h, .inr (10, mdF qa x0 x2 x3 x4 x13 x14 x15 x16 x17 x18 x19 x20 x21 x22 x23 x24 x26 x27 x28)), (qa 31, .inl (cI, 4, .inl (fun _ => 0))), (qa 32, .inl (cI, 4, .inl (fun _ => 0))), (qa 33, .inl (cI, 4, .inl (fun _ => 0))), (qa 34, .inl (cI, 4, .inl (fun _ => 0))), (qa 35, .inl (cI, 4, .inl (fun _ => 0))), (qa 36, .inl (cI, 4, .inl (fun _ => 0))), (qa 37, .inl (cI, 4, .inl (fun _ => 0))), (qa 38, .inl (cI, 4, .inl (fun _ => 0))), (qa 39, .inl (cI, 4, .inl (fun _ => 0))), (qa 40, .inl (cI, 4, .inl (fun _ => 0))), (qa 41, .inl (cI, 4, .inl (fun _ => 0))), (qa 42, .inl (cI, 4, .inl (fun _ => 0))), (qa 43, .inl (cI, 4, .inl (fun _ => 0))), (qa 44, .inl (cI, 4, .inl (fun _ => 0))), (qa 45, .inl (cI, 4, .inl (fun _ => 0))), (qa 46, .inl (cI, 4, .inl (fun _ => 0))), (qa 47, .inl (cI, 4, .inl (fun _ => 0))), (qa 48, .inl (cI, 4, .inl (fun _ => 0))), (qa 49, .inl (cI, 4, .inl (fun _ => 0))), (qa 50, .inl (cJ, 4, .inr (.inl (vp_updL (fun _ => 0) cv 0)))), (qa 51, .inl (cZ, 4, .inl (fun _ => 0)))] := hD
  have hfe_139 : vp_updL (fun _ => 0) cv 0 = fun _ => 0 := updL_z cv
  rw [hfe_139] at hP hD
  refine lv_aload_n hx hb dX11_silence_140 rfl (lv_at hl 0 rfl) ?_
  refine va_get (D := (dC, dI)) (ci := 10) (v := .ref (qa 51)) (C := RX11) (T := TX11) (N := 53) hx hb hts iwX11 hown hK hP 0 rfl rfl 51 (by decide) (hts (.fieldLink RX11 117 "ModulePlayerModel" "sounds" "[Z") (List.mem_cons_of_mem _ kw_207)) (fun _ h9 => h9) rfl dX11_silence_141 ?_
  refine lv_iload_n hx hb dX11_silence_144 rfl (lv_at hl 1 rfl) ?_
  refine lv_iconst (v := 0) hx hb dX11_silence_145 (by decide) ?_
  refine g_zast hx hb hK hP hD hS 21 2 rfl rfl (x' := 0) (by decide) cv (nI_clamp (Nat.lt_trans (show cv < 4 from hcv) (by decide))) (vp_in_nI (hcv) (by decide)) dX11_silence_146 (fun H locs hP hD hS => ?_)
  have hP : va_P (dC, dI) vwCl [(h, .inr (10, mdF qa x0 x2 x3 x4 x13 x14 x15 x16 x17 x18 x19 x20 x21 x22 x23 x24 x26 x27 x28)), (qa 31, .inl (cI, 4, .inl (fun _ => 0))), (qa 32, .inl (cI, 4, .inl (fun _ => 0))), (qa 33, .inl (cI, 4, .inl (fun _ => 0))), (qa 34, .inl (cI, 4, .inl (fun _ => 0))), (qa 35, .inl (cI, 4, .inl (fun _ => 0))), (qa 36, .inl (cI, 4, .inl (fun _ => 0))), (qa 37, .inl (cI, 4, .inl (fun _ => 0))), (qa 38, .inl (cI, 4, .inl (fun _ => 0))), (qa 39, .inl (cI, 4, .inl (fun _ => 0))), (qa 40, .inl (cI, 4, .inl (fun _ => 0))), (qa 41, .inl (cI, 4, .inl (fun _ => 0))), (qa 42, .inl (cI, 4, .inl (fun _ => 0))), (qa 43, .inl (cI, 4, .inl (fun _ => 0))), (qa 44, .inl (cI, 4, .inl (fun _ => 0))), (qa 45, .inl (cI, 4, .inl (fun _ => 0))), (qa 46, .inl (cI, 4, .inl (fun _ => 0))), (qa 47, .inl (cI, 4, .inl (fun _ => 0))), (qa 48, .inl (cI, 4, .inl (fun _ => 0))), (qa 49, .inl (cI, 4, .inl (fun _ => 0))), (qa 50, .inl (cJ, 4, .inr (.inl (fun _ => 0)))), (qa 51, .inl (cZ, 4, .inl (upd (fun _ => 0) cv 0)))] H := hP
  have hD : va_D A [(h, .inr (10, mdF qa x0 x2 x3 x4 x13 x14 x15 x16 x17 x18 x19 x20 x21 x22 x23 x24 x26 x27 x28)), (qa 31, .inl (cI, 4, .inl (fun _ => 0))), (qa 32, .inl (cI, 4, .inl (fun _ => 0))), (qa 33, .inl (cI, 4, .inl (fun _ => 0))), (qa 34, .inl (cI, 4, .inl (fun _ => 0))), (qa 35, .inl (cI, 4, .inl (fun _ => 0))), (qa 36, .inl (cI, 4, .inl (fun _ => 0))), (qa 37, .inl (cI, 4, .inl (fun _ => 0))), (qa 38, .inl (cI, 4, .inl (fun _ => 0))), (qa 39, .inl (cI, 4, .inl (fun _ => 0))), (qa 40, .inl (cI, 4, .inl (fun _ => 0))), (qa 41, .inl (cI, 4, .inl (fun _ => 0))), (qa 42, .inl (cI, 4, .inl (fun _ => 0))), (qa 43, .inl (cI, 4, .inl (fun _ => 0))), (qa 44, .inl (cI, 4, .inl (fun _ => 0))), (qa 45, .inl (cI, 4, .inl (fun _ => 0))), (qa 46, .inl (cI, 4, .inl (fun _ => 0))), (qa 47, .inl (cI, 4, .inl (fun _ => 0))), (qa 48, .inl (cI, 4, .inl (fun _ => 0))), (qa 49, .inl (cI, 4, .inl (fun _ => 0))), (qa 50, .inl (cJ, 4, .inr (.inl (fun _ => 0)))), (qa 51, .inl (cZ, 4, .inl (upd (fun _ => 0) cv 0)))] := hD
  have hfe_146 : upd (fun _ => 0) cv 0 = fun _ => 0 := upd_z cv
  rw [hfe_146] at hP hD
  have hP9 := hP.sub (ws' := [(h, .inr (10, mdF qa x0 x2 x3 x4 x13 x14 x15 x16 x17 x18 x19 x20 x21 x22 x23 x24 x26 x27 x28)), (qa 31, .inl (cI, 4, .inl (fun _ => 0))), (qa 32, .inl (cI, 4, .inl (fun _ => 0))), (qa 33, .inl (cI, 4, .inl (fun _ => 0))), (qa 34, .inl (cI, 4, .inl (fun _ => 0))), (qa 35, .inl (cI, 4, .inl (fun _ => 0))), (qa 36, .inl (cI, 4, .inl (fun _ => 0))), (qa 37, .inl (cI, 4, .inl (fun _ => 0))), (qa 38, .inl (cI, 4, .inl (fun _ => 0))), (qa 39, .inl (cI, 4, .inl (fun _ => 0))), (qa 40, .inl (cI, 4, .inl (fun _ => 0))), (qa 41, .inl (cI, 4, .inl (fun _ => 0))), (qa 42, .inl (cI, 4, .inl (fun _ => 0))), (qa 43, .inl (cI, 4, .inl (fun _ => 0))), (qa 44, .inl (cI, 4, .inl (fun _ => 0))), (qa 45, .inl (cI, 4, .inl (fun _ => 0))), (qa 46, .inl (cI, 4, .inl (fun _ => 0))), (qa 47, .inl (cI, 4, .inl (fun _ => 0))), (qa 48, .inl (cI, 4, .inl (fun _ => 0))), (qa 49, .inl (cI, 4, .inl (fun _ => 0))), (qa 50, .inl (cJ, 4, .inr (.inl (fun _ => 0)))), (qa 51, .inl (cZ, 4, .inl (fun _ => 0)))]) [0, 1, 2, 3, 4, 5, 6, 7, 8, 9, 10, 11, 12, 13, 14, 15, 16, 17, 18, 19, 20, 21] rfl
  have hD9 := hD.sub (ws' := [(h, .inr (10, mdF qa x0 x2 x3 x4 x13 x14 x15 x16 x17 x18 x19 x20 x21 x22 x23 x24 x26 x27 x28)), (qa 31, .inl (cI, 4, .inl (fun _ => 0))), (qa 32, .inl (cI, 4, .inl (fun _ => 0))), (qa 33, .inl (cI, 4, .inl (fun _ => 0))), (qa 34, .inl (cI, 4, .inl (fun _ => 0))), (qa 35, .inl (cI, 4, .inl (fun _ => 0))), (qa 36, .inl (cI, 4, .inl (fun _ => 0))), (qa 37, .inl (cI, 4, .inl (fun _ => 0))), (qa 38, .inl (cI, 4, .inl (fun _ => 0))), (qa 39, .inl (cI, 4, .inl (fun _ => 0))), (qa 40, .inl (cI, 4, .inl (fun _ => 0))), (qa 41, .inl (cI, 4, .inl (fun _ => 0))), (qa 42, .inl (cI, 4, .inl (fun _ => 0))), (qa 43, .inl (cI, 4, .inl (fun _ => 0))), (qa 44, .inl (cI, 4, .inl (fun _ => 0))), (qa 45, .inl (cI, 4, .inl (fun _ => 0))), (qa 46, .inl (cI, 4, .inl (fun _ => 0))), (qa 47, .inl (cI, 4, .inl (fun _ => 0))), (qa 48, .inl (cI, 4, .inl (fun _ => 0))), (qa 49, .inl (cI, 4, .inl (fun _ => 0))), (qa 50, .inl (cJ, 4, .inr (.inl (fun _ => 0)))), (qa 51, .inl (cZ, 4, .inl (fun _ => 0)))]) [0, 1, 2, 3, 4, 5, 6, 7, 8, 9, 10, 11, 12, 13, 14, 15, 16, 17, 18, 19, 20, 21] (by decide) rfl
  have hK9 := hK.sub (tys' := []) [] rfl
  exact W.vret hx hb hr (fun t ht hW => ⟨⟨([(h, .inr (10, mdF qa x0 x2 x3 x4 x13 x14 x15 x16 x17 x18 x19 x20 x21 x22 x23 x24 x26 x27 x28)), (qa 31, .inl (cI, 4, .inl (fun _ => 0))), (qa 32, .inl (cI, 4, .inl (fun _ => 0))), (qa 33, .inl (cI, 4, .inl (fun _ => 0))), (qa 34, .inl (cI, 4, .inl (fun _ => 0))), (qa 35, .inl (cI, 4, .inl (fun _ => 0))), (qa 36, .inl (cI, 4, .inl (fun _ => 0))), (qa 37, .inl (cI, 4, .inl (fun _ => 0))), (qa 38, .inl (cI, 4, .inl (fun _ => 0))), (qa 39, .inl (cI, 4, .inl (fun _ => 0))), (qa 40, .inl (cI, 4, .inl (fun _ => 0))), (qa 41, .inl (cI, 4, .inl (fun _ => 0))), (qa 42, .inl (cI, 4, .inl (fun _ => 0))), (qa 43, .inl (cI, 4, .inl (fun _ => 0))), (qa 44, .inl (cI, 4, .inl (fun _ => 0))), (qa 45, .inl (cI, 4, .inl (fun _ => 0))), (qa 46, .inl (cI, 4, .inl (fun _ => 0))), (qa 47, .inl (cI, 4, .inl (fun _ => 0))), (qa 48, .inl (cI, 4, .inl (fun _ => 0))), (qa 49, .inl (cI, 4, .inl (fun _ => 0))), (qa 50, .inl (cJ, 4, .inr (.inl (fun _ => 0)))), (qa 51, .inl (cZ, 4, .inl (fun _ => 0)))], []), rfl, rfl, by rw [ht]; exact hP9, va_K.moved hW.alike hK9, hD9⟩, hS.F ht⟩) hS.2.2 dX11_silence_147

set_option maxHeartbeats 400000 in
set_option maxRecDepth 100000 in
theorem m_start0 (l : Launch) (dC : Nat → ClassId) (dI : Nat → Nat → Nat) (sz : Nat) (h : Nat) (qa : Nat → Nat) (x0 x2 x3 x4 x13 x14 x15 x16 x17 x18 x19 x20 x21 x22 x23 x24 x26 x27 x28 : Int32) (cZ cI cJ : ClassId) (fz : Nat → Int32) : Met l yX11_start (wsG (.code yX11_start cX11_start 2 none)) ({ frames := 1, cells := 0, slots := 0, locals := 21 }) (va_Pc [.ref h] (gP (dC, dI) [(cZ, .boolean), (cI, .int), (cJ, .long)] [(h, .inr (10, mdF qa x0 x2 x3 x4 x13 x14 x15 x16 x17 x18 x19 x20 x21 x22 x23 x24 x26 x27 x28)), (qa 25, .inl (cZ, 8192, .inl fz)), (qa 31, .inl (cI, 4, .inl (fun _ => 0))), (qa 32, .inl (cI, 4, .inl (fun _ => 0))), (qa 33, .inl (cI, 4, .inl (fun _ => 0))), (qa 34, .inl (cI, 4, .inl (fun _ => 0))), (qa 35, .inl (cI, 4, .inl (fun _ => 0))), (qa 36, .inl (cI, 4, .inl (fun _ => 0))), (qa 37, .inl (cI, 4, .inl (fun _ => 0))), (qa 38, .inl (cI, 4, .inl (fun _ => 0))), (qa 39, .inl (cI, 4, .inl (fun _ => 0))), (qa 40, .inl (cI, 4, .inl (fun _ => 0))), (qa 41, .inl (cI, 4, .inl (fun _ => 0))), (qa 42, .inl (cI, 4, .inl (fun _ => 0))), (qa 43, .inl (cI, 4, .inl (fun _ => 0))), (qa 44, .inl (cI, 4, .inl (fun _ => 0))), (qa 45, .inl (cI, 4, .inl (fun _ => 0))), (qa 46, .inl (cI, 4, .inl (fun _ => 0))), (qa 47, .inl (cI, 4, .inl (fun _ => 0))), (qa 48, .inl (cI, 4, .inl (fun _ => 0))), (qa 49, .inl (cI, 4, .inl (fun _ => 0))), (qa 50, .inl (cJ, 4, .inr (.inl (fun _ => 0)))), (qa 51, .inl (cZ, 4, .inl (fun _ => 0)))] sz)) (va_Qv (fun u : va_W × gT => ∃ (fz2 : Nat → Int32), u = ([(h, .inr (10, mdF qa x0 x2 x3 x4 x13 x14 6 125 (-1) (-1) (-1) 0 0 17 0 (-1) x26 x27 x28)), (qa 25, .inl (cZ, 8192, .inl fz2)), (qa 31, .inl (cI, 4, .inl (fun _ => 0))), (qa 32, .inl (cI, 4, .inl (fun _ => 0))), (qa 33, .inl (cI, 4, .inl (fun _ => 0))), (qa 34, .inl (cI, 4, .inl (fun _ => 0))), (qa 35, .inl (cI, 4, .inl (fun _ => 0))), (qa 36, .inl (cI, 4, .inl (fun _ => 0))), (qa 37, .inl (cI, 4, .inl (fun _ => 0))), (qa 38, .inl (cI, 4, .inl (fun _ => 0))), (qa 39, .inl (cI, 4, .inl (fun _ => 0))), (qa 40, .inl (cI, 4, .inl (fun _ => 0))), (qa 41, .inl (cI, 4, .inl (fun _ => 0))), (qa 42, .inl (cI, 4, .inl (fun _ => 0))), (qa 43, .inl (cI, 4, .inl (fun _ => 0))), (qa 44, .inl (cI, 4, .inl (fun _ => 0))), (qa 45, .inl (cI, 4, .inl (fun _ => 0))), (qa 46, .inl (cI, 4, .inl (fun _ => 0))), (qa 47, .inl (cI, 4, .inl (fun _ => 0))), (qa 48, .inl (cI, 4, .inl (fun _ => 0))), (qa 49, .inl (cI, 4, .inl (fun _ => 0))), (qa 50, .inl (cJ, 4, .inr (.inl (fun _ => 0)))), (qa 51, .inl (cZ, 4, .inl (fun _ => 0)))], [])) (gB (dC, dI) (va_A [(h, .inr (10, mdF qa x0 x2 x3 x4 x13 x14 x15 x16 x17 x18 x19 x20 x21 x22 x23 x24 x26 x27 x28)), (qa 25, .inl (cZ, 8192, .inl fz)), (qa 31, .inl (cI, 4, .inl (fun _ => 0))), (qa 32, .inl (cI, 4, .inl (fun _ => 0))), (qa 33, .inl (cI, 4, .inl (fun _ => 0))), (qa 34, .inl (cI, 4, .inl (fun _ => 0))), (qa 35, .inl (cI, 4, .inl (fun _ => 0))), (qa 36, .inl (cI, 4, .inl (fun _ => 0))), (qa 37, .inl (cI, 4, .inl (fun _ => 0))), (qa 38, .inl (cI, 4, .inl (fun _ => 0))), (qa 39, .inl (cI, 4, .inl (fun _ => 0))), (qa 40, .inl (cI, 4, .inl (fun _ => 0))), (qa 41, .inl (cI, 4, .inl (fun _ => 0))), (qa 42, .inl (cI, 4, .inl (fun _ => 0))), (qa 43, .inl (cI, 4, .inl (fun _ => 0))), (qa 44, .inl (cI, 4, .inl (fun _ => 0))), (qa 45, .inl (cI, 4, .inl (fun _ => 0))), (qa 46, .inl (cI, 4, .inl (fun _ => 0))), (qa 47, .inl (cI, 4, .inl (fun _ => 0))), (qa 48, .inl (cI, 4, .inl (fun _ => 0))), (qa 49, .inl (cI, 4, .inl (fun _ => 0))), (qa 50, .inl (cJ, 4, .inr (.inl (fun _ => 0)))), (qa 51, .inl (cZ, 4, .inl (fun _ => 0)))] sz)) (va_A [(h, .inr (10, mdF qa x0 x2 x3 x4 x13 x14 x15 x16 x17 x18 x19 x20 x21 x22 x23 x24 x26 x27 x28)), (qa 25, .inl (cZ, 8192, .inl fz)), (qa 31, .inl (cI, 4, .inl (fun _ => 0))), (qa 32, .inl (cI, 4, .inl (fun _ => 0))), (qa 33, .inl (cI, 4, .inl (fun _ => 0))), (qa 34, .inl (cI, 4, .inl (fun _ => 0))), (qa 35, .inl (cI, 4, .inl (fun _ => 0))), (qa 36, .inl (cI, 4, .inl (fun _ => 0))), (qa 37, .inl (cI, 4, .inl (fun _ => 0))), (qa 38, .inl (cI, 4, .inl (fun _ => 0))), (qa 39, .inl (cI, 4, .inl (fun _ => 0))), (qa 40, .inl (cI, 4, .inl (fun _ => 0))), (qa 41, .inl (cI, 4, .inl (fun _ => 0))), (qa 42, .inl (cI, 4, .inl (fun _ => 0))), (qa 43, .inl (cI, 4, .inl (fun _ => 0))), (qa 44, .inl (cI, 4, .inl (fun _ => 0))), (qa 45, .inl (cI, 4, .inl (fun _ => 0))), (qa 46, .inl (cI, 4, .inl (fun _ => 0))), (qa 47, .inl (cI, 4, .inl (fun _ => 0))), (qa 48, .inl (cI, 4, .inl (fun _ => 0))), (qa 49, .inl (cI, 4, .inl (fun _ => 0))), (qa 50, .inl (cJ, 4, .inr (.inl (fun _ => 0)))), (qa 51, .inl (cZ, 4, .inl (fun _ => 0)))] sz)) 0 0 (va_A [(h, .inr (10, mdF qa x0 x2 x3 x4 x13 x14 x15 x16 x17 x18 x19 x20 x21 x22 x23 x24 x26 x27 x28)), (qa 25, .inl (cZ, 8192, .inl fz)), (qa 31, .inl (cI, 4, .inl (fun _ => 0))), (qa 32, .inl (cI, 4, .inl (fun _ => 0))), (qa 33, .inl (cI, 4, .inl (fun _ => 0))), (qa 34, .inl (cI, 4, .inl (fun _ => 0))), (qa 35, .inl (cI, 4, .inl (fun _ => 0))), (qa 36, .inl (cI, 4, .inl (fun _ => 0))), (qa 37, .inl (cI, 4, .inl (fun _ => 0))), (qa 38, .inl (cI, 4, .inl (fun _ => 0))), (qa 39, .inl (cI, 4, .inl (fun _ => 0))), (qa 40, .inl (cI, 4, .inl (fun _ => 0))), (qa 41, .inl (cI, 4, .inl (fun _ => 0))), (qa 42, .inl (cI, 4, .inl (fun _ => 0))), (qa 43, .inl (cI, 4, .inl (fun _ => 0))), (qa 44, .inl (cI, 4, .inl (fun _ => 0))), (qa 45, .inl (cI, 4, .inl (fun _ => 0))), (qa 46, .inl (cI, 4, .inl (fun _ => 0))), (qa 47, .inl (cI, 4, .inl (fun _ => 0))), (qa 48, .inl (cI, 4, .inl (fun _ => 0))), (qa 49, .inl (cI, 4, .inl (fun _ => 0))), (qa 50, .inl (cJ, 4, .inr (.inl (fun _ => 0)))), (qa 51, .inl (cZ, 4, .inl (fun _ => 0)))] sz) := by
  refine Met.ofW (cc := cX11_start) (maxL := 2) (ret := none) (by decide) rfl ?_
  intro p e s m args below meth c s₁ B hml hv
  obtain ⟨rfl, hsz, hP, hK, hD0, hN, hZ⟩ := hv
  have hx := B.exec
  have hb := B.bytes
  have hr := B.returns
  have hts := atoms_spec (ws := (wsG (.code yX11_start cX11_start 2 none))) B.pre
  have hown : s.vm.findClass RX11 = some m.cls := findClass_of_methodNamed B.named
  have hlocks := B.notSynchronized
  subst hsz
  have hD := hD0.self (sz := s.heap.size)
  generalize hAe : va_A [(h, .inr (10, mdF qa x0 x2 x3 x4 x13 x14 x15 x16 x17 x18 x19 x20 x21 x22 x23 x24 x26 x27 x28)), (qa 25, .inl (cZ, 8192, .inl fz)), (qa 31, .inl (cI, 4, .inl (fun _ => 0))), (qa 32, .inl (cI, 4, .inl (fun _ => 0))), (qa 33, .inl (cI, 4, .inl (fun _ => 0))), (qa 34, .inl (cI, 4, .inl (fun _ => 0))), (qa 35, .inl (cI, 4, .inl (fun _ => 0))), (qa 36, .inl (cI, 4, .inl (fun _ => 0))), (qa 37, .inl (cI, 4, .inl (fun _ => 0))), (qa 38, .inl (cI, 4, .inl (fun _ => 0))), (qa 39, .inl (cI, 4, .inl (fun _ => 0))), (qa 40, .inl (cI, 4, .inl (fun _ => 0))), (qa 41, .inl (cI, 4, .inl (fun _ => 0))), (qa 42, .inl (cI, 4, .inl (fun _ => 0))), (qa 43, .inl (cI, 4, .inl (fun _ => 0))), (qa 44, .inl (cI, 4, .inl (fun _ => 0))), (qa 45, .inl (cI, 4, .inl (fun _ => 0))), (qa 46, .inl (cI, 4, .inl (fun _ => 0))), (qa 47, .inl (cI, 4, .inl (fun _ => 0))), (qa 48, .inl (cI, 4, .inl (fun _ => 0))), (qa 49, .inl (cI, 4, .inl (fun _ => 0))), (qa 50, .inl (cJ, 4, .inr (.inl (fun _ => 0)))), (qa 51, .inl (cZ, 4, .inl (fun _ => 0)))] s.heap.size = A at hD hZ ⊢
  have hA : ∀ q : Nat, s.heap.size ≤ q → A q := fun q h => by rw [← hAe]; exact Or.inr h
  have hl := lv_entry ([.ref h]) (n := 2) (Nat.le_of_ble_eq_true rfl)
  rw [lg_entry_eq]
  generalize (lg_sl ([.ref h]) ++ List.replicate (2 - (lg_sl ([.ref h])).length) Slot.unset).toArray = ls at hl ⊢
  have hl : lv_has ls 2 [(0, .ref h)] := hl
  refine g_start (A := A) hP (fun H locs hP hS => ?_)
  refine lv_aload_n hx hb dX11_start_0 rfl (lv_at hl 0 rfl) ?_
  refine lv_bipush (v := 6) hx hb dX11_start_1 (by decide) ?_
  refine va_put (D := (dC, dI)) (ci := 10) (v := .int 6) (ty := tyX11 15) (C := RX11) (T := TX11) (N := 53) hx hb hts iwX11 tyX11 tyX11_ok nmX11 hown hK hP hD hS 0 rfl rfl 15 (by decide) (hts (.fieldLink RX11 197 "ModulePlayerModel" "speed" "I") (List.mem_cons_of_mem _ kw_218)) (fun _ h9 => h9) rfl (by decide +kernel) (rfl) (rfl) (Nat.le_of_ble_eq_true rfl) dX11_start_3 (fun H locs hP hD hS => ?_)
  have hP : va_P (dC, dI) vwCl [(h, .inr (10, mdF qa x0 x2 x3 x4 x13 x14 6 x16 x17 x18 x19 x20 x21 x22 x23 x24 x26 x27 x28)), (qa 25, .inl (cZ, 8192, .inl fz)), (qa 31, .inl (cI, 4, .inl (fun _ => 0))), (qa 32, .inl (cI, 4, .inl (fun _ => 0))), (qa 33, .inl (cI, 4, .inl (fun _ => 0))), (qa 34, .inl (cI, 4, .inl (fun _ => 0))), (qa 35, .inl (cI, 4, .inl (fun _ => 0))), (qa 36, .inl (cI, 4, .inl (fun _ => 0))), (qa 37, .inl (cI, 4, .inl (fun _ => 0))), (qa 38, .inl (cI, 4, .inl (fun _ => 0))), (qa 39, .inl (cI, 4, .inl (fun _ => 0))), (qa 40, .inl (cI, 4, .inl (fun _ => 0))), (qa 41, .inl (cI, 4, .inl (fun _ => 0))), (qa 42, .inl (cI, 4, .inl (fun _ => 0))), (qa 43, .inl (cI, 4, .inl (fun _ => 0))), (qa 44, .inl (cI, 4, .inl (fun _ => 0))), (qa 45, .inl (cI, 4, .inl (fun _ => 0))), (qa 46, .inl (cI, 4, .inl (fun _ => 0))), (qa 47, .inl (cI, 4, .inl (fun _ => 0))), (qa 48, .inl (cI, 4, .inl (fun _ => 0))), (qa 49, .inl (cI, 4, .inl (fun _ => 0))), (qa 50, .inl (cJ, 4, .inr (.inl (fun _ => 0)))), (qa 51, .inl (cZ, 4, .inl (fun _ => 0)))] H := hP
  have hD : va_D A [(h, .inr (10, mdF qa x0 x2 x3 x4 x13 x14 6 x16 x17 x18 x19 x20 x21 x22 x23 x24 x26 x27 x28)), (qa 25, .inl (cZ, 8192, .inl fz)), (qa 31, .inl (cI, 4, .inl (fun _ => 0))), (qa 32, .inl (cI, 4, .inl (fun _ => 0))), (qa 33, .inl (cI, 4, .inl (fun _ => 0))), (qa 34, .inl (cI, 4, .inl (fun _ => 0))), (qa 35, .inl (cI, 4, .inl (fun _ => 0))), (qa 36, .inl (cI, 4, .inl (fun _ => 0))), (qa 37, .inl (cI, 4, .inl (fun _ => 0))), (qa 38, .inl (cI, 4, .inl (fun _ => 0))), (qa 39, .inl (cI, 4, .inl (fun _ => 0))), (qa 40, .inl (cI, 4, .inl (fun _ => 0))), (qa 41, .inl (cI, 4, .inl (fun _ => 0))), (qa 42, .inl (cI, 4, .inl (fun _ => 0))), (qa 43, .inl (cI, 4, .inl (fun _ => 0))), (qa 44, .inl (cI, 4, .inl (fun _ => 0))), (qa 45, .inl (cI, 4, .inl (fun _ => 0))), (qa 46, .inl (cI, 4, .inl (fun _ => 0))), (qa 47, .inl (cI, 4, .inl (fun _ => 0))), (qa 48, .inl (cI, 4, .inl (fun _ => 0))), (qa 49, .inl (cI, 4, .inl (fun _ => 0))), (qa 50, .inl (cJ, 4, .inr (.inl (fun _ => 0)))), (qa 51, .inl (cZ, 4, .inl (fun _ => 0)))] := hD
  refine lv_aload_n hx hb dX11_start_6 rfl (lv_at hl 0 rfl) ?_
  refine lv_bipush (v := 125) hx hb dX11_start_7 (by decide) ?_
  refine va_put (D := (dC, dI)) (ci := 10) (v := .int 125) (ty := tyX11 16) (C := RX11) (T := TX11) (N := 53) hx hb hts iwX11 tyX11 tyX11_ok nmX11 hown hK hP hD hS 0 rfl rfl 16 (by decide) (hts (.fieldLink RX11 200 "ModulePlayerModel" "tempo" "I") (List.mem_cons_of_mem _ kw_219)) (fun _ h9 => h9) rfl (by decide +kernel) (rfl) (rfl) (Nat.le_of_ble_eq_true rfl) dX11_start_9 (fun H locs hP hD hS => ?_)
  have hP : va_P (dC, dI) vwCl [(h, .inr (10, mdF qa x0 x2 x3 x4 x13 x14 6 125 x17 x18 x19 x20 x21 x22 x23 x24 x26 x27 x28)), (qa 25, .inl (cZ, 8192, .inl fz)), (qa 31, .inl (cI, 4, .inl (fun _ => 0))), (qa 32, .inl (cI, 4, .inl (fun _ => 0))), (qa 33, .inl (cI, 4, .inl (fun _ => 0))), (qa 34, .inl (cI, 4, .inl (fun _ => 0))), (qa 35, .inl (cI, 4, .inl (fun _ => 0))), (qa 36, .inl (cI, 4, .inl (fun _ => 0))), (qa 37, .inl (cI, 4, .inl (fun _ => 0))), (qa 38, .inl (cI, 4, .inl (fun _ => 0))), (qa 39, .inl (cI, 4, .inl (fun _ => 0))), (qa 40, .inl (cI, 4, .inl (fun _ => 0))), (qa 41, .inl (cI, 4, .inl (fun _ => 0))), (qa 42, .inl (cI, 4, .inl (fun _ => 0))), (qa 43, .inl (cI, 4, .inl (fun _ => 0))), (qa 44, .inl (cI, 4, .inl (fun _ => 0))), (qa 45, .inl (cI, 4, .inl (fun _ => 0))), (qa 46, .inl (cI, 4, .inl (fun _ => 0))), (qa 47, .inl (cI, 4, .inl (fun _ => 0))), (qa 48, .inl (cI, 4, .inl (fun _ => 0))), (qa 49, .inl (cI, 4, .inl (fun _ => 0))), (qa 50, .inl (cJ, 4, .inr (.inl (fun _ => 0)))), (qa 51, .inl (cZ, 4, .inl (fun _ => 0)))] H := hP
  have hD : va_D A [(h, .inr (10, mdF qa x0 x2 x3 x4 x13 x14 6 125 x17 x18 x19 x20 x21 x22 x23 x24 x26 x27 x28)), (qa 25, .inl (cZ, 8192, .inl fz)), (qa 31, .inl (cI, 4, .inl (fun _ => 0))), (qa 32, .inl (cI, 4, .inl (fun _ => 0))), (qa 33, .inl (cI, 4, .inl (fun _ => 0))), (qa 34, .inl (cI, 4, .inl (fun _ => 0))), (qa 35, .inl (cI, 4, .inl (fun _ => 0))), (qa 36, .inl (cI, 4, .inl (fun _ => 0))), (qa 37, .inl (cI, 4, .inl (fun _ => 0))), (qa 38, .inl (cI, 4, .inl (fun _ => 0))), (qa 39, .inl (cI, 4, .inl (fun _ => 0))), (qa 40, .inl (cI, 4, .inl (fun _ => 0))), (qa 41, .inl (cI, 4, .inl (fun _ => 0))), (qa 42, .inl (cI, 4, .inl (fun _ => 0))), (qa 43, .inl (cI, 4, .inl (fun _ => 0))), (qa 44, .inl (cI, 4, .inl (fun _ => 0))), (qa 45, .inl (cI, 4, .inl (fun _ => 0))), (qa 46, .inl (cI, 4, .inl (fun _ => 0))), (qa 47, .inl (cI, 4, .inl (fun _ => 0))), (qa 48, .inl (cI, 4, .inl (fun _ => 0))), (qa 49, .inl (cI, 4, .inl (fun _ => 0))), (qa 50, .inl (cJ, 4, .inr (.inl (fun _ => 0)))), (qa 51, .inl (cZ, 4, .inl (fun _ => 0)))] := hD
  refine lv_aload_n hx hb dX11_start_12 rfl (lv_at hl 0 rfl) ?_
  refine lv_iconst (v := (-1)) hx hb dX11_start_13 (by decide) ?_
  refine va_put (D := (dC, dI)) (ci := 10) (v := .int (-1)) (ty := tyX11 17) (C := RX11) (T := TX11) (N := 53) hx hb hts iwX11 tyX11 tyX11_ok nmX11 hown hK hP hD hS 0 rfl rfl 17 (by decide) (hts (.fieldLink RX11 203 "ModulePlayerModel" "place" "I") (List.mem_cons_of_mem _ kw_220)) (fun _ h9 => h9) rfl (by decide +kernel) (rfl) (rfl) (Nat.le_of_ble_eq_true rfl) dX11_start_14 (fun H locs hP hD hS => ?_)
  have hP : va_P (dC, dI) vwCl [(h, .inr (10, mdF qa x0 x2 x3 x4 x13 x14 6 125 (-1) x18 x19 x20 x21 x22 x23 x24 x26 x27 x28)), (qa 25, .inl (cZ, 8192, .inl fz)), (qa 31, .inl (cI, 4, .inl (fun _ => 0))), (qa 32, .inl (cI, 4, .inl (fun _ => 0))), (qa 33, .inl (cI, 4, .inl (fun _ => 0))), (qa 34, .inl (cI, 4, .inl (fun _ => 0))), (qa 35, .inl (cI, 4, .inl (fun _ => 0))), (qa 36, .inl (cI, 4, .inl (fun _ => 0))), (qa 37, .inl (cI, 4, .inl (fun _ => 0))), (qa 38, .inl (cI, 4, .inl (fun _ => 0))), (qa 39, .inl (cI, 4, .inl (fun _ => 0))), (qa 40, .inl (cI, 4, .inl (fun _ => 0))), (qa 41, .inl (cI, 4, .inl (fun _ => 0))), (qa 42, .inl (cI, 4, .inl (fun _ => 0))), (qa 43, .inl (cI, 4, .inl (fun _ => 0))), (qa 44, .inl (cI, 4, .inl (fun _ => 0))), (qa 45, .inl (cI, 4, .inl (fun _ => 0))), (qa 46, .inl (cI, 4, .inl (fun _ => 0))), (qa 47, .inl (cI, 4, .inl (fun _ => 0))), (qa 48, .inl (cI, 4, .inl (fun _ => 0))), (qa 49, .inl (cI, 4, .inl (fun _ => 0))), (qa 50, .inl (cJ, 4, .inr (.inl (fun _ => 0)))), (qa 51, .inl (cZ, 4, .inl (fun _ => 0)))] H := hP
  have hD : va_D A [(h, .inr (10, mdF qa x0 x2 x3 x4 x13 x14 6 125 (-1) x18 x19 x20 x21 x22 x23 x24 x26 x27 x28)), (qa 25, .inl (cZ, 8192, .inl fz)), (qa 31, .inl (cI, 4, .inl (fun _ => 0))), (qa 32, .inl (cI, 4, .inl (fun _ => 0))), (qa 33, .inl (cI, 4, .inl (fun _ => 0))), (qa 34, .inl (cI, 4, .inl (fun _ => 0))), (qa 35, .inl (cI, 4, .inl (fun _ => 0))), (qa 36, .inl (cI, 4, .inl (fun _ => 0))), (qa 37, .inl (cI, 4, .inl (fun _ => 0))), (qa 38, .inl (cI, 4, .inl (fun _ => 0))), (qa 39, .inl (cI, 4, .inl (fun _ => 0))), (qa 40, .inl (cI, 4, .inl (fun _ => 0))), (qa 41, .inl (cI, 4, .inl (fun _ => 0))), (qa 42, .inl (cI, 4, .inl (fun _ => 0))), (qa 43, .inl (cI, 4, .inl (fun _ => 0))), (qa 44, .inl (cI, 4, .inl (fun _ => 0))), (qa 45, .inl (cI, 4, .inl (fun _ => 0))), (qa 46, .inl (cI, 4, .inl (fun _ => 0))), (qa 47, .inl (cI, 4, .inl (fun _ => 0))), (qa 48, .inl (cI, 4, .inl (fun _ => 0))), (qa 49, .inl (cI, 4, .inl (fun _ => 0))), (qa 50, .inl (cJ, 4, .inr (.inl (fun _ => 0)))), (qa 51, .inl (cZ, 4, .inl (fun _ => 0)))] := hD
  refine lv_aload_n hx hb dX11_start_17 rfl (lv_at hl 0 rfl) ?_
  refine lv_iconst (v := (-1)) hx hb dX11_start_18 (by decide) ?_
  refine va_put (D := (dC, dI)) (ci := 10) (v := .int (-1)) (ty := tyX11 18) (C := RX11) (T := TX11) (N := 53) hx hb hts iwX11 tyX11 tyX11_ok nmX11 hown hK hP hD hS 0 rfl rfl 18 (by decide) (hts (.fieldLink RX11 206 "ModulePlayerModel" "row" "I") (List.mem_cons_of_mem _ kw_221)) (fun _ h9 => h9) rfl (by decide +kernel) (rfl) (rfl) (Nat.le_of_ble_eq_true rfl) dX11_start_19 (fun H locs hP hD hS => ?_)
  have hP : va_P (dC, dI) vwCl [(h, .inr (10, mdF qa x0 x2 x3 x4 x13 x14 6 125 (-1) (-1) x19 x20 x21 x22 x23 x24 x26 x27 x28)), (qa 25, .inl (cZ, 8192, .inl fz)), (qa 31, .inl (cI, 4, .inl (fun _ => 0))), (qa 32, .inl (cI, 4, .inl (fun _ => 0))), (qa 33, .inl (cI, 4, .inl (fun _ => 0))), (qa 34, .inl (cI, 4, .inl (fun _ => 0))), (qa 35, .inl (cI, 4, .inl (fun _ => 0))), (qa 36, .inl (cI, 4, .inl (fun _ => 0))), (qa 37, .inl (cI, 4, .inl (fun _ => 0))), (qa 38, .inl (cI, 4, .inl (fun _ => 0))), (qa 39, .inl (cI, 4, .inl (fun _ => 0))), (qa 40, .inl (cI, 4, .inl (fun _ => 0))), (qa 41, .inl (cI, 4, .inl (fun _ => 0))), (qa 42, .inl (cI, 4, .inl (fun _ => 0))), (qa 43, .inl (cI, 4, .inl (fun _ => 0))), (qa 44, .inl (cI, 4, .inl (fun _ => 0))), (qa 45, .inl (cI, 4, .inl (fun _ => 0))), (qa 46, .inl (cI, 4, .inl (fun _ => 0))), (qa 47, .inl (cI, 4, .inl (fun _ => 0))), (qa 48, .inl (cI, 4, .inl (fun _ => 0))), (qa 49, .inl (cI, 4, .inl (fun _ => 0))), (qa 50, .inl (cJ, 4, .inr (.inl (fun _ => 0)))), (qa 51, .inl (cZ, 4, .inl (fun _ => 0)))] H := hP
  have hD : va_D A [(h, .inr (10, mdF qa x0 x2 x3 x4 x13 x14 6 125 (-1) (-1) x19 x20 x21 x22 x23 x24 x26 x27 x28)), (qa 25, .inl (cZ, 8192, .inl fz)), (qa 31, .inl (cI, 4, .inl (fun _ => 0))), (qa 32, .inl (cI, 4, .inl (fun _ => 0))), (qa 33, .inl (cI, 4, .inl (fun _ => 0))), (qa 34, .inl (cI, 4, .inl (fun _ => 0))), (qa 35, .inl (cI, 4, .inl (fun _ => 0))), (qa 36, .inl (cI, 4, .inl (fun _ => 0))), (qa 37, .inl (cI, 4, .inl (fun _ => 0))), (qa 38, .inl (cI, 4, .inl (fun _ => 0))), (qa 39, .inl (cI, 4, .inl (fun _ => 0))), (qa 40, .inl (cI, 4, .inl (fun _ => 0))), (qa 41, .inl (cI, 4, .inl (fun _ => 0))), (qa 42, .inl (cI, 4, .inl (fun _ => 0))), (qa 43, .inl (cI, 4, .inl (fun _ => 0))), (qa 44, .inl (cI, 4, .inl (fun _ => 0))), (qa 45, .inl (cI, 4, .inl (fun _ => 0))), (qa 46, .inl (cI, 4, .inl (fun _ => 0))), (qa 47, .inl (cI, 4, .inl (fun _ => 0))), (qa 48, .inl (cI, 4, .inl (fun _ => 0))), (qa 49, .inl (cI, 4, .inl (fun _ => 0))), (qa 50, .inl (cJ, 4, .inr (.inl (fun _ => 0)))), (qa 51, .inl (cZ, 4, .inl (fun _ => 0)))] := hD
  refine lv_aload_n hx hb dX11_start_22 rfl (lv_at hl 0 rfl) ?_
  refine lv_iconst (v := (-1)) hx hb dX11_start_23 (by decide) ?_
  refine va_put (D := (dC, dI)) (ci := 10) (v := .int (-1)) (ty := tyX11 19) (C := RX11) (T := TX11) (N := 53) hx hb hts iwX11 tyX11 tyX11_ok nmX11 hown hK hP hD hS 0 rfl rfl 19 (by decide) (hts (.fieldLink RX11 209 "ModulePlayerModel" "tick" "I") (List.mem_cons_of_mem _ kw_222)) (fun _ h9 => h9) rfl (by decide +kernel) (rfl) (rfl) (Nat.le_of_ble_eq_true rfl) dX11_start_24 (fun H locs hP hD hS => ?_)
  have hP : va_P (dC, dI) vwCl [(h, .inr (10, mdF qa x0 x2 x3 x4 x13 x14 6 125 (-1) (-1) (-1) x20 x21 x22 x23 x24 x26 x27 x28)), (qa 25, .inl (cZ, 8192, .inl fz)), (qa 31, .inl (cI, 4, .inl (fun _ => 0))), (qa 32, .inl (cI, 4, .inl (fun _ => 0))), (qa 33, .inl (cI, 4, .inl (fun _ => 0))), (qa 34, .inl (cI, 4, .inl (fun _ => 0))), (qa 35, .inl (cI, 4, .inl (fun _ => 0))), (qa 36, .inl (cI, 4, .inl (fun _ => 0))), (qa 37, .inl (cI, 4, .inl (fun _ => 0))), (qa 38, .inl (cI, 4, .inl (fun _ => 0))), (qa 39, .inl (cI, 4, .inl (fun _ => 0))), (qa 40, .inl (cI, 4, .inl (fun _ => 0))), (qa 41, .inl (cI, 4, .inl (fun _ => 0))), (qa 42, .inl (cI, 4, .inl (fun _ => 0))), (qa 43, .inl (cI, 4, .inl (fun _ => 0))), (qa 44, .inl (cI, 4, .inl (fun _ => 0))), (qa 45, .inl (cI, 4, .inl (fun _ => 0))), (qa 46, .inl (cI, 4, .inl (fun _ => 0))), (qa 47, .inl (cI, 4, .inl (fun _ => 0))), (qa 48, .inl (cI, 4, .inl (fun _ => 0))), (qa 49, .inl (cI, 4, .inl (fun _ => 0))), (qa 50, .inl (cJ, 4, .inr (.inl (fun _ => 0)))), (qa 51, .inl (cZ, 4, .inl (fun _ => 0)))] H := hP
  have hD : va_D A [(h, .inr (10, mdF qa x0 x2 x3 x4 x13 x14 6 125 (-1) (-1) (-1) x20 x21 x22 x23 x24 x26 x27 x28)), (qa 25, .inl (cZ, 8192, .inl fz)), (qa 31, .inl (cI, 4, .inl (fun _ => 0))), (qa 32, .inl (cI, 4, .inl (fun _ => 0))), (qa 33, .inl (cI, 4, .inl (fun _ => 0))), (qa 34, .inl (cI, 4, .inl (fun _ => 0))), (qa 35, .inl (cI, 4, .inl (fun _ => 0))), (qa 36, .inl (cI, 4, .inl (fun _ => 0))), (qa 37, .inl (cI, 4, .inl (fun _ => 0))), (qa 38, .inl (cI, 4, .inl (fun _ => 0))), (qa 39, .inl (cI, 4, .inl (fun _ => 0))), (qa 40, .inl (cI, 4, .inl (fun _ => 0))), (qa 41, .inl (cI, 4, .inl (fun _ => 0))), (qa 42, .inl (cI, 4, .inl (fun _ => 0))), (qa 43, .inl (cI, 4, .inl (fun _ => 0))), (qa 44, .inl (cI, 4, .inl (fun _ => 0))), (qa 45, .inl (cI, 4, .inl (fun _ => 0))), (qa 46, .inl (cI, 4, .inl (fun _ => 0))), (qa 47, .inl (cI, 4, .inl (fun _ => 0))), (qa 48, .inl (cI, 4, .inl (fun _ => 0))), (qa 49, .inl (cI, 4, .inl (fun _ => 0))), (qa 50, .inl (cJ, 4, .inr (.inl (fun _ => 0)))), (qa 51, .inl (cZ, 4, .inl (fun _ => 0)))] := hD
  refine lv_aload_n hx hb dX11_start_27 rfl (lv_at hl 0 rfl) ?_
  refine lv_iconst (v := (-1)) hx hb dX11_start_28 (by decide) ?_
  refine va_put (D := (dC, dI)) (ci := 10) (v := .int (-1)) (ty := tyX11 24) (C := RX11) (T := TX11) (N := 53) hx hb hts iwX11 tyX11 tyX11_ok nmX11 hown hK hP hD hS 0 rfl rfl 24 (by decide) (hts (.fieldLink RX11 212 "ModulePlayerModel" "frames" "I") (List.mem_cons_of_mem _ kw_223)) (fun _ h9 => h9) rfl (by decide +kernel) (rfl) (rfl) (Nat.le_of_ble_eq_true rfl) dX11_start_29 (fun H locs hP hD hS => ?_)
  have hP : va_P (dC, dI) vwCl [(h, .inr (10, mdF qa x0 x2 x3 x4 x13 x14 6 125 (-1) (-1) (-1) x20 x21 x22 x23 (-1) x26 x27 x28)), (qa 25, .inl (cZ, 8192, .inl fz)), (qa 31, .inl (cI, 4, .inl (fun _ => 0))), (qa 32, .inl (cI, 4, .inl (fun _ => 0))), (qa 33, .inl (cI, 4, .inl (fun _ => 0))), (qa 34, .inl (cI, 4, .inl (fun _ => 0))), (qa 35, .inl (cI, 4, .inl (fun _ => 0))), (qa 36, .inl (cI, 4, .inl (fun _ => 0))), (qa 37, .inl (cI, 4, .inl (fun _ => 0))), (qa 38, .inl (cI, 4, .inl (fun _ => 0))), (qa 39, .inl (cI, 4, .inl (fun _ => 0))), (qa 40, .inl (cI, 4, .inl (fun _ => 0))), (qa 41, .inl (cI, 4, .inl (fun _ => 0))), (qa 42, .inl (cI, 4, .inl (fun _ => 0))), (qa 43, .inl (cI, 4, .inl (fun _ => 0))), (qa 44, .inl (cI, 4, .inl (fun _ => 0))), (qa 45, .inl (cI, 4, .inl (fun _ => 0))), (qa 46, .inl (cI, 4, .inl (fun _ => 0))), (qa 47, .inl (cI, 4, .inl (fun _ => 0))), (qa 48, .inl (cI, 4, .inl (fun _ => 0))), (qa 49, .inl (cI, 4, .inl (fun _ => 0))), (qa 50, .inl (cJ, 4, .inr (.inl (fun _ => 0)))), (qa 51, .inl (cZ, 4, .inl (fun _ => 0)))] H := hP
  have hD : va_D A [(h, .inr (10, mdF qa x0 x2 x3 x4 x13 x14 6 125 (-1) (-1) (-1) x20 x21 x22 x23 (-1) x26 x27 x28)), (qa 25, .inl (cZ, 8192, .inl fz)), (qa 31, .inl (cI, 4, .inl (fun _ => 0))), (qa 32, .inl (cI, 4, .inl (fun _ => 0))), (qa 33, .inl (cI, 4, .inl (fun _ => 0))), (qa 34, .inl (cI, 4, .inl (fun _ => 0))), (qa 35, .inl (cI, 4, .inl (fun _ => 0))), (qa 36, .inl (cI, 4, .inl (fun _ => 0))), (qa 37, .inl (cI, 4, .inl (fun _ => 0))), (qa 38, .inl (cI, 4, .inl (fun _ => 0))), (qa 39, .inl (cI, 4, .inl (fun _ => 0))), (qa 40, .inl (cI, 4, .inl (fun _ => 0))), (qa 41, .inl (cI, 4, .inl (fun _ => 0))), (qa 42, .inl (cI, 4, .inl (fun _ => 0))), (qa 43, .inl (cI, 4, .inl (fun _ => 0))), (qa 44, .inl (cI, 4, .inl (fun _ => 0))), (qa 45, .inl (cI, 4, .inl (fun _ => 0))), (qa 46, .inl (cI, 4, .inl (fun _ => 0))), (qa 47, .inl (cI, 4, .inl (fun _ => 0))), (qa 48, .inl (cI, 4, .inl (fun _ => 0))), (qa 49, .inl (cI, 4, .inl (fun _ => 0))), (qa 50, .inl (cJ, 4, .inr (.inl (fun _ => 0)))), (qa 51, .inl (cZ, 4, .inl (fun _ => 0)))] := hD
  refine lv_aload_n hx hb dX11_start_32 rfl (lv_at hl 0 rfl) ?_
  refine lv_iconst (v := 0) hx hb dX11_start_33 (by decide) ?_
  refine va_put (D := (dC, dI)) (ci := 10) (v := .int 0) (ty := tyX11 20) (C := RX11) (T := TX11) (N := 53) hx hb hts iwX11 tyX11 tyX11_ok nmX11 hown hK hP hD hS 0 rfl rfl 20 (by decide) (hts (.fieldLink RX11 215 "ModulePlayerModel" "delay" "I") (List.mem_cons_of_mem _ kw_224)) (fun _ h9 => h9) rfl (by decide +kernel) (rfl) (rfl) (Nat.le_of_ble_eq_true rfl) dX11_start_34 (fun H locs hP hD hS => ?_)
  have hP : va_P (dC, dI) vwCl [(h, .inr (10, mdF qa x0 x2 x3 x4 x13 x14 6 125 (-1) (-1) (-1) 0 x21 x22 x23 (-1) x26 x27 x28)), (qa 25, .inl (cZ, 8192, .inl fz)), (qa 31, .inl (cI, 4, .inl (fun _ => 0))), (qa 32, .inl (cI, 4, .inl (fun _ => 0))), (qa 33, .inl (cI, 4, .inl (fun _ => 0))), (qa 34, .inl (cI, 4, .inl (fun _ => 0))), (qa 35, .inl (cI, 4, .inl (fun _ => 0))), (qa 36, .inl (cI, 4, .inl (fun _ => 0))), (qa 37, .inl (cI, 4, .inl (fun _ => 0))), (qa 38, .inl (cI, 4, .inl (fun _ => 0))), (qa 39, .inl (cI, 4, .inl (fun _ => 0))), (qa 40, .inl (cI, 4, .inl (fun _ => 0))), (qa 41, .inl (cI, 4, .inl (fun _ => 0))), (qa 42, .inl (cI, 4, .inl (fun _ => 0))), (qa 43, .inl (cI, 4, .inl (fun _ => 0))), (qa 44, .inl (cI, 4, .inl (fun _ => 0))), (qa 45, .inl (cI, 4, .inl (fun _ => 0))), (qa 46, .inl (cI, 4, .inl (fun _ => 0))), (qa 47, .inl (cI, 4, .inl (fun _ => 0))), (qa 48, .inl (cI, 4, .inl (fun _ => 0))), (qa 49, .inl (cI, 4, .inl (fun _ => 0))), (qa 50, .inl (cJ, 4, .inr (.inl (fun _ => 0)))), (qa 51, .inl (cZ, 4, .inl (fun _ => 0)))] H := hP
  have hD : va_D A [(h, .inr (10, mdF qa x0 x2 x3 x4 x13 x14 6 125 (-1) (-1) (-1) 0 x21 x22 x23 (-1) x26 x27 x28)), (qa 25, .inl (cZ, 8192, .inl fz)), (qa 31, .inl (cI, 4, .inl (fun _ => 0))), (qa 32, .inl (cI, 4, .inl (fun _ => 0))), (qa 33, .inl (cI, 4, .inl (fun _ => 0))), (qa 34, .inl (cI, 4, .inl (fun _ => 0))), (qa 35, .inl (cI, 4, .inl (fun _ => 0))), (qa 36, .inl (cI, 4, .inl (fun _ => 0))), (qa 37, .inl (cI, 4, .inl (fun _ => 0))), (qa 38, .inl (cI, 4, .inl (fun _ => 0))), (qa 39, .inl (cI, 4, .inl (fun _ => 0))), (qa 40, .inl (cI, 4, .inl (fun _ => 0))), (qa 41, .inl (cI, 4, .inl (fun _ => 0))), (qa 42, .inl (cI, 4, .inl (fun _ => 0))), (qa 43, .inl (cI, 4, .inl (fun _ => 0))), (qa 44, .inl (cI, 4, .inl (fun _ => 0))), (qa 45, .inl (cI, 4, .inl (fun _ => 0))), (qa 46, .inl (cI, 4, .inl (fun _ => 0))), (qa 47, .inl (cI, 4, .inl (fun _ => 0))), (qa 48, .inl (cI, 4, .inl (fun _ => 0))), (qa 49, .inl (cI, 4, .inl (fun _ => 0))), (qa 50, .inl (cJ, 4, .inr (.inl (fun _ => 0)))), (qa 51, .inl (cZ, 4, .inl (fun _ => 0)))] := hD
  refine lv_aload_n hx hb dX11_start_37 rfl (lv_at hl 0 rfl) ?_
  refine lv_iconst (v := 0) hx hb dX11_start_38 (by decide) ?_
  refine va_put (D := (dC, dI)) (ci := 10) (v := .int 0) (ty := tyX11 21) (C := RX11) (T := TX11) (N := 53) hx hb hts iwX11 tyX11 tyX11_ok nmX11 hown hK hP hD hS 0 rfl rfl 21 (by decide) (hts (.fieldLink RX11 218 "ModulePlayerModel" "again" "I") (List.mem_cons_of_mem _ kw_225)) (fun _ h9 => h9) rfl (by decide +kernel) (rfl) (rfl) (Nat.le_of_ble_eq_true rfl) dX11_start_39 (fun H locs hP hD hS => ?_)
  have hP : va_P (dC, dI) vwCl [(h, .inr (10, mdF qa x0 x2 x3 x4 x13 x14 6 125 (-1) (-1) (-1) 0 0 x22 x23 (-1) x26 x27 x28)), (qa 25, .inl (cZ, 8192, .inl fz)), (qa 31, .inl (cI, 4, .inl (fun _ => 0))), (qa 32, .inl (cI, 4, .inl (fun _ => 0))), (qa 33, .inl (cI, 4, .inl (fun _ => 0))), (qa 34, .inl (cI, 4, .inl (fun _ => 0))), (qa 35, .inl (cI, 4, .inl (fun _ => 0))), (qa 36, .inl (cI, 4, .inl (fun _ => 0))), (qa 37, .inl (cI, 4, .inl (fun _ => 0))), (qa 38, .inl (cI, 4, .inl (fun _ => 0))), (qa 39, .inl (cI, 4, .inl (fun _ => 0))), (qa 40, .inl (cI, 4, .inl (fun _ => 0))), (qa 41, .inl (cI, 4, .inl (fun _ => 0))), (qa 42, .inl (cI, 4, .inl (fun _ => 0))), (qa 43, .inl (cI, 4, .inl (fun _ => 0))), (qa 44, .inl (cI, 4, .inl (fun _ => 0))), (qa 45, .inl (cI, 4, .inl (fun _ => 0))), (qa 46, .inl (cI, 4, .inl (fun _ => 0))), (qa 47, .inl (cI, 4, .inl (fun _ => 0))), (qa 48, .inl (cI, 4, .inl (fun _ => 0))), (qa 49, .inl (cI, 4, .inl (fun _ => 0))), (qa 50, .inl (cJ, 4, .inr (.inl (fun _ => 0)))), (qa 51, .inl (cZ, 4, .inl (fun _ => 0)))] H := hP
  have hD : va_D A [(h, .inr (10, mdF qa x0 x2 x3 x4 x13 x14 6 125 (-1) (-1) (-1) 0 0 x22 x23 (-1) x26 x27 x28)), (qa 25, .inl (cZ, 8192, .inl fz)), (qa 31, .inl (cI, 4, .inl (fun _ => 0))), (qa 32, .inl (cI, 4, .inl (fun _ => 0))), (qa 33, .inl (cI, 4, .inl (fun _ => 0))), (qa 34, .inl (cI, 4, .inl (fun _ => 0))), (qa 35, .inl (cI, 4, .inl (fun _ => 0))), (qa 36, .inl (cI, 4, .inl (fun _ => 0))), (qa 37, .inl (cI, 4, .inl (fun _ => 0))), (qa 38, .inl (cI, 4, .inl (fun _ => 0))), (qa 39, .inl (cI, 4, .inl (fun _ => 0))), (qa 40, .inl (cI, 4, .inl (fun _ => 0))), (qa 41, .inl (cI, 4, .inl (fun _ => 0))), (qa 42, .inl (cI, 4, .inl (fun _ => 0))), (qa 43, .inl (cI, 4, .inl (fun _ => 0))), (qa 44, .inl (cI, 4, .inl (fun _ => 0))), (qa 45, .inl (cI, 4, .inl (fun _ => 0))), (qa 46, .inl (cI, 4, .inl (fun _ => 0))), (qa 47, .inl (cI, 4, .inl (fun _ => 0))), (qa 48, .inl (cI, 4, .inl (fun _ => 0))), (qa 49, .inl (cI, 4, .inl (fun _ => 0))), (qa 50, .inl (cJ, 4, .inr (.inl (fun _ => 0)))), (qa 51, .inl (cZ, 4, .inl (fun _ => 0)))] := hD
  refine lv_aload_n hx hb dX11_start_42 rfl (lv_at hl 0 rfl) ?_
  refine lv_bipush (v := 17) hx hb dX11_start_43 (by decide) ?_
  refine va_put (D := (dC, dI)) (ci := 10) (v := .int 17) (ty := tyX11 22) (C := RX11) (T := TX11) (N := 53) hx hb hts iwX11 tyX11 tyX11_ok nmX11 hown hK hP hD hS 0 rfl rfl 22 (by decide) (hts (.fieldLink RX11 221 "ModulePlayerModel" "sum" "I") (List.mem_cons_of_mem _ kw_226)) (fun _ h9 => h9) rfl (by decide +kernel) (rfl) (rfl) (Nat.le_of_ble_eq_true rfl) dX11_start_45 (fun H locs hP hD hS => ?_)
  have hP : va_P (dC, dI) vwCl [(h, .inr (10, mdF qa x0 x2 x3 x4 x13 x14 6 125 (-1) (-1) (-1) 0 0 17 x23 (-1) x26 x27 x28)), (qa 25, .inl (cZ, 8192, .inl fz)), (qa 31, .inl (cI, 4, .inl (fun _ => 0))), (qa 32, .inl (cI, 4, .inl (fun _ => 0))), (qa 33, .inl (cI, 4, .inl (fun _ => 0))), (qa 34, .inl (cI, 4, .inl (fun _ => 0))), (qa 35, .inl (cI, 4, .inl (fun _ => 0))), (qa 36, .inl (cI, 4, .inl (fun _ => 0))), (qa 37, .inl (cI, 4, .inl (fun _ => 0))), (qa 38, .inl (cI, 4, .inl (fun _ => 0))), (qa 39, .inl (cI, 4, .inl (fun _ => 0))), (qa 40, .inl (cI, 4, .inl (fun _ => 0))), (qa 41, .inl (cI, 4, .inl (fun _ => 0))), (qa 42, .inl (cI, 4, .inl (fun _ => 0))), (qa 43, .inl (cI, 4, .inl (fun _ => 0))), (qa 44, .inl (cI, 4, .inl (fun _ => 0))), (qa 45, .inl (cI, 4, .inl (fun _ => 0))), (qa 46, .inl (cI, 4, .inl (fun _ => 0))), (qa 47, .inl (cI, 4, .inl (fun _ => 0))), (qa 48, .inl (cI, 4, .inl (fun _ => 0))), (qa 49, .inl (cI, 4, .inl (fun _ => 0))), (qa 50, .inl (cJ, 4, .inr (.inl (fun _ => 0)))), (qa 51, .inl (cZ, 4, .inl (fun _ => 0)))] H := hP
  have hD : va_D A [(h, .inr (10, mdF qa x0 x2 x3 x4 x13 x14 6 125 (-1) (-1) (-1) 0 0 17 x23 (-1) x26 x27 x28)), (qa 25, .inl (cZ, 8192, .inl fz)), (qa 31, .inl (cI, 4, .inl (fun _ => 0))), (qa 32, .inl (cI, 4, .inl (fun _ => 0))), (qa 33, .inl (cI, 4, .inl (fun _ => 0))), (qa 34, .inl (cI, 4, .inl (fun _ => 0))), (qa 35, .inl (cI, 4, .inl (fun _ => 0))), (qa 36, .inl (cI, 4, .inl (fun _ => 0))), (qa 37, .inl (cI, 4, .inl (fun _ => 0))), (qa 38, .inl (cI, 4, .inl (fun _ => 0))), (qa 39, .inl (cI, 4, .inl (fun _ => 0))), (qa 40, .inl (cI, 4, .inl (fun _ => 0))), (qa 41, .inl (cI, 4, .inl (fun _ => 0))), (qa 42, .inl (cI, 4, .inl (fun _ => 0))), (qa 43, .inl (cI, 4, .inl (fun _ => 0))), (qa 44, .inl (cI, 4, .inl (fun _ => 0))), (qa 45, .inl (cI, 4, .inl (fun _ => 0))), (qa 46, .inl (cI, 4, .inl (fun _ => 0))), (qa 47, .inl (cI, 4, .inl (fun _ => 0))), (qa 48, .inl (cI, 4, .inl (fun _ => 0))), (qa 49, .inl (cI, 4, .inl (fun _ => 0))), (qa 50, .inl (cJ, 4, .inr (.inl (fun _ => 0)))), (qa 51, .inl (cZ, 4, .inl (fun _ => 0)))] := hD
  refine lv_aload_n hx hb dX11_start_48 rfl (lv_at hl 0 rfl) ?_
  refine lv_iconst (v := 0) hx hb dX11_start_49 (by decide) ?_
  refine va_put (D := (dC, dI)) (ci := 10) (v := .int 0) (ty := tyX11 23) (C := RX11) (T := TX11) (N := 53) hx hb hts iwX11 tyX11 tyX11_ok nmX11 hown hK hP hD hS 0 rfl rfl 23 (by decide) (hts (.fieldLink RX11 224 "ModulePlayerModel" "ticks" "I") (List.mem_cons_of_mem _ kw_227)) (fun _ h9 => h9) rfl (by decide +kernel) (rfl) (rfl) (Nat.le_of_ble_eq_true rfl) dX11_start_50 (fun H locs hP hD hS => ?_)
  have hP : va_P (dC, dI) vwCl [(h, .inr (10, mdF qa x0 x2 x3 x4 x13 x14 6 125 (-1) (-1) (-1) 0 0 17 0 (-1) x26 x27 x28)), (qa 25, .inl (cZ, 8192, .inl fz)), (qa 31, .inl (cI, 4, .inl (fun _ => 0))), (qa 32, .inl (cI, 4, .inl (fun _ => 0))), (qa 33, .inl (cI, 4, .inl (fun _ => 0))), (qa 34, .inl (cI, 4, .inl (fun _ => 0))), (qa 35, .inl (cI, 4, .inl (fun _ => 0))), (qa 36, .inl (cI, 4, .inl (fun _ => 0))), (qa 37, .inl (cI, 4, .inl (fun _ => 0))), (qa 38, .inl (cI, 4, .inl (fun _ => 0))), (qa 39, .inl (cI, 4, .inl (fun _ => 0))), (qa 40, .inl (cI, 4, .inl (fun _ => 0))), (qa 41, .inl (cI, 4, .inl (fun _ => 0))), (qa 42, .inl (cI, 4, .inl (fun _ => 0))), (qa 43, .inl (cI, 4, .inl (fun _ => 0))), (qa 44, .inl (cI, 4, .inl (fun _ => 0))), (qa 45, .inl (cI, 4, .inl (fun _ => 0))), (qa 46, .inl (cI, 4, .inl (fun _ => 0))), (qa 47, .inl (cI, 4, .inl (fun _ => 0))), (qa 48, .inl (cI, 4, .inl (fun _ => 0))), (qa 49, .inl (cI, 4, .inl (fun _ => 0))), (qa 50, .inl (cJ, 4, .inr (.inl (fun _ => 0)))), (qa 51, .inl (cZ, 4, .inl (fun _ => 0)))] H := hP
  have hD : va_D A [(h, .inr (10, mdF qa x0 x2 x3 x4 x13 x14 6 125 (-1) (-1) (-1) 0 0 17 0 (-1) x26 x27 x28)), (qa 25, .inl (cZ, 8192, .inl fz)), (qa 31, .inl (cI, 4, .inl (fun _ => 0))), (qa 32, .inl (cI, 4, .inl (fun _ => 0))), (qa 33, .inl (cI, 4, .inl (fun _ => 0))), (qa 34, .inl (cI, 4, .inl (fun _ => 0))), (qa 35, .inl (cI, 4, .inl (fun _ => 0))), (qa 36, .inl (cI, 4, .inl (fun _ => 0))), (qa 37, .inl (cI, 4, .inl (fun _ => 0))), (qa 38, .inl (cI, 4, .inl (fun _ => 0))), (qa 39, .inl (cI, 4, .inl (fun _ => 0))), (qa 40, .inl (cI, 4, .inl (fun _ => 0))), (qa 41, .inl (cI, 4, .inl (fun _ => 0))), (qa 42, .inl (cI, 4, .inl (fun _ => 0))), (qa 43, .inl (cI, 4, .inl (fun _ => 0))), (qa 44, .inl (cI, 4, .inl (fun _ => 0))), (qa 45, .inl (cI, 4, .inl (fun _ => 0))), (qa 46, .inl (cI, 4, .inl (fun _ => 0))), (qa 47, .inl (cI, 4, .inl (fun _ => 0))), (qa 48, .inl (cI, 4, .inl (fun _ => 0))), (qa 49, .inl (cI, 4, .inl (fun _ => 0))), (qa 50, .inl (cJ, 4, .inr (.inl (fun _ => 0)))), (qa 51, .inl (cZ, 4, .inl (fun _ => 0)))] := hD
  refine lv_iconst (v := 0) hx hb dX11_start_53 (by decide) ?_
  refine lv_istore_n (lv' := [(1, .int 0), (0, .ref h)]) hx hb dX11_start_54 rfl hl (by decide) rfl (fun ls hl => ?_)
  have LP55 : ∀ (fu55 : Nat) (km : Nat) (fy_ : Nat → Int32) (hkm : km ≤ 8192) (hm55 : 8192 - km < fu55) (H : Heap) (locs : List Loc), va_P (dC, dI) vwCl [(h, .inr (10, mdF qa x0 x2 x3 x4 x13 x14 6 125 (-1) (-1) (-1) 0 0 17 0 (-1) x26 x27 x28)), (qa 25, .inl (cZ, 8192, .inl fy_)), (qa 31, .inl (cI, 4, .inl (fun _ => 0))), (qa 32, .inl (cI, 4, .inl (fun _ => 0))), (qa 33, .inl (cI, 4, .inl (fun _ => 0))), (qa 34, .inl (cI, 4, .inl (fun _ => 0))), (qa 35, .inl (cI, 4, .inl (fun _ => 0))), (qa 36, .inl (cI, 4, .inl (fun _ => 0))), (qa 37, .inl (cI, 4, .inl (fun _ => 0))), (qa 38, .inl (cI, 4, .inl (fun _ => 0))), (qa 39, .inl (cI, 4, .inl (fun _ => 0))), (qa 40, .inl (cI, 4, .inl (fun _ => 0))), (qa 41, .inl (cI, 4, .inl (fun _ => 0))), (qa 42, .inl (cI, 4, .inl (fun _ => 0))), (qa 43, .inl (cI, 4, .inl (fun _ => 0))), (qa 44, .inl (cI, 4, .inl (fun _ => 0))), (qa 45, .inl (cI, 4, .inl (fun _ => 0))), (qa 46, .inl (cI, 4, .inl (fun _ => 0))), (qa 47, .inl (cI, 4, .inl (fun _ => 0))), (qa 48, .inl (cI, 4, .inl (fun _ => 0))), (qa 49, .inl (cI, 4, .inl (fun _ => 0))), (qa 50, .inl (cJ, 4, .inr (.inl (fun _ => 0)))), (qa 51, .inl (cZ, 4, .inl (fun _ => 0)))] H → va_D A [(h, .inr (10, mdF qa x0 x2 x3 x4 x13 x14 6 125 (-1) (-1) (-1) 0 0 17 0 (-1) x26 x27 x28)), (qa 25, .inl (cZ, 8192, .inl fy_)), (qa 31, .inl (cI, 4, .inl (fun _ => 0))), (qa 32, .inl (cI, 4, .inl (fun _ => 0))), (qa 33, .inl (cI, 4, .inl (fun _ => 0))), (qa 34, .inl (cI, 4, .inl (fun _ => 0))), (qa 35, .inl (cI, 4, .inl (fun _ => 0))), (qa 36, .inl (cI, 4, .inl (fun _ => 0))), (qa 37, .inl (cI, 4, .inl (fun _ => 0))), (qa 38, .inl (cI, 4, .inl (fun _ => 0))), (qa 39, .inl (cI, 4, .inl (fun _ => 0))), (qa 40, .inl (cI, 4, .inl (fun _ => 0))), (qa 41, .inl (cI, 4, .inl (fun _ => 0))), (qa 42, .inl (cI, 4, .inl (fun _ => 0))), (qa 43, .inl (cI, 4, .inl (fun _ => 0))), (qa 44, .inl (cI, 4, .inl (fun _ => 0))), (qa 45, .inl (cI, 4, .inl (fun _ => 0))), (qa 46, .inl (cI, 4, .inl (fun _ => 0))), (qa 47, .inl (cI, 4, .inl (fun _ => 0))), (qa 48, .inl (cI, 4, .inl (fun _ => 0))), (qa 49, .inl (cI, 4, .inl (fun _ => 0))), (qa 50, .inl (cJ, 4, .inr (.inl (fun _ => 0)))), (qa 51, .inl (cZ, 4, .inl (fun _ => 0)))] → va_S A s.heap H locs → ∀ ls : Array Slot, lv_has ls 2 [(1, .int (nI km)), (0, .ref h)] → W p l e ({ frames := 1, cells := 0, slots := 0, locals := 21 }) s m ([.ref h] : List Value).toArray below meth c H locs (0) (0) (MQ below (va_Qv (fun u : va_W × gT => ∃ (fz2 : Nat → Int32), u = ([(h, .inr (10, mdF qa x0 x2 x3 x4 x13 x14 6 125 (-1) (-1) (-1) 0 0 17 0 (-1) x26 x27 x28)), (qa 25, .inl (cZ, 8192, .inl fz2)), (qa 31, .inl (cI, 4, .inl (fun _ => 0))), (qa 32, .inl (cI, 4, .inl (fun _ => 0))), (qa 33, .inl (cI, 4, .inl (fun _ => 0))), (qa 34, .inl (cI, 4, .inl (fun _ => 0))), (qa 35, .inl (cI, 4, .inl (fun _ => 0))), (qa 36, .inl (cI, 4, .inl (fun _ => 0))), (qa 37, .inl (cI, 4, .inl (fun _ => 0))), (qa 38, .inl (cI, 4, .inl (fun _ => 0))), (qa 39, .inl (cI, 4, .inl (fun _ => 0))), (qa 40, .inl (cI, 4, .inl (fun _ => 0))), (qa 41, .inl (cI, 4, .inl (fun _ => 0))), (qa 42, .inl (cI, 4, .inl (fun _ => 0))), (qa 43, .inl (cI, 4, .inl (fun _ => 0))), (qa 44, .inl (cI, 4, .inl (fun _ => 0))), (qa 45, .inl (cI, 4, .inl (fun _ => 0))), (qa 46, .inl (cI, 4, .inl (fun _ => 0))), (qa 47, .inl (cI, 4, .inl (fun _ => 0))), (qa 48, .inl (cI, 4, .inl (fun _ => 0))), (qa 49, .inl (cI, 4, .inl (fun _ => 0))), (qa 50, .inl (cJ, 4, .inr (.inl (fun _ => 0)))), (qa 51, .inl (cZ, 4, .inl (fun _ => 0)))], [])) (gB (dC, dI) A) A) ([.ref h] : List Value).toArray s 0 0 A) (F0 m 55 ls []) := by
    intro fu55
    induction fu55 with
    | zero => intro km fy_ hkm hm55; exact absurd hm55 (Nat.not_lt_zero _)
    | succ fu55 ih55 =>
      intro km fy_ hkm hm55 H locs hP hD hS ls hl
      refine lv_iload_n hx hb dX11_start_55 rfl (lv_at hl 0 rfl) ?_
      refine lv_sipush (v := 8192) hx hb dX11_start_56 (by decide) ?_
      refine lv_icmp_ge (tgt := 75) hx hb dX11_start_59 (by decide) (fun c_59 => ?_) (fun c_59 => ?_)
      · refine lv_iconst (v := 0) hx hb dX11_start_75 (by decide) ?_
        refine lv_istore_n (lv' := [(1, .int 0), (0, .ref h)]) hx hb dX11_start_76 rfl hl (by decide) rfl (fun ls hl => ?_)
        refine lv_iload_n hx hb dX11_start_77 rfl (lv_at hl 0 rfl) ?_
        refine lv_iconst (v := 4) hx hb dX11_start_78 (by decide) ?_
        refine lv_icmp_ge (tgt := 93) hx hb dX11_start_79 (by decide) (fun c_79 => absurd c_79 (by decide)) (fun c_79 => ?_)
        refine lv_aload_n hx hb dX11_start_82 rfl (lv_at hl 1 rfl) ?_
        refine lv_iload_n hx hb dX11_start_83 rfl (lv_at hl 0 rfl) ?_
        refine g_callv (wr := [(qa 25, .inl (cZ, 8192, .inl fy_))]) (va_runV (As := [.int 0]) (rest := []) ⟨hx, hb, hml, hown, hts⟩ (m_silence0 l dC dI H.size h qa x0 x2 x3 x4 x13 x14 6 125 (-1) (-1) (-1) 0 0 17 0 (-1) x26 x27 x28 cI cJ cZ 0 (by decide)) (cwV 1 hts (gG_V kw_228 kw_229 kw_230 kw_5 kw_231) rfl rfl rfl (by decide +kernel) ⟨Nat.le_of_ble_eq_true rfl, Nat.le_of_ble_eq_true rfl⟩) (g_preV (C := RX11) (T := TX11) (N := 53) hP hD hK hS hA hN hZ (q0 := 0) rfl rfl [0, 2, 3, 4, 5, 6, 7, 8, 9, 10, 11, 12, 13, 14, 15, 16, 17, 18, 19, 20, 21, 22] (by decide) rfl [1, 2, 0] rfl) rfl rfl hl.1 rfl (lv_room (Nat.le_of_ble_eq_true rfl)) dX11_start_84 ⟨Nat.le_of_ble_eq_true rfl, Nat.le_of_ble_eq_true rfl⟩) hP hD hK hS hA [0, 2, 3, 4, 5, 6, 7, 8, 9, 10, 11, 12, 13, 14, 15, 16, 17, 18, 19, 20, 21, 22] [1] rfl rfl (by decide) (by decide) (fun w ty1 H locs hw_84 hP hD _ hS => ?_)
        have hu := hw_84
        cases hu
        have hP : va_P (dC, dI) vwCl [(qa 25, .inl (cZ, 8192, .inl fy_)), (h, .inr (10, mdF qa x0 x2 x3 x4 x13 x14 6 125 (-1) (-1) (-1) 0 0 17 0 (-1) x26 x27 x28)), (qa 31, .inl (cI, 4, .inl (fun _ => 0))), (qa 32, .inl (cI, 4, .inl (fun _ => 0))), (qa 33, .inl (cI, 4, .inl (fun _ => 0))), (qa 34, .inl (cI, 4, .inl (fun _ => 0))), (qa 35, .inl (cI, 4, .inl (fun _ => 0))), (qa 36, .inl (cI, 4, .inl (fun _ => 0))), (qa 37, .inl (cI, 4, .inl (fun _ => 0))), (qa 38, .inl (cI, 4, .inl (fun _ => 0))), (qa 39, .inl (cI, 4, .inl (fun _ => 0))), (qa 40, .inl (cI, 4, .inl (fun _ => 0))), (qa 41, .inl (cI, 4, .inl (fun _ => 0))), (qa 42, .inl (cI, 4, .inl (fun _ => 0))), (qa 43, .inl (cI, 4, .inl (fun _ => 0))), (qa 44, .inl (cI, 4, .inl (fun _ => 0))), (qa 45, .inl (cI, 4, .inl (fun _ => 0))), (qa 46, .inl (cI, 4, .inl (fun _ => 0))), (qa 47, .inl (cI, 4, .inl (fun _ => 0))), (qa 48, .inl (cI, 4, .inl (fun _ => 0))), (qa 49, .inl (cI, 4, .inl (fun _ => 0))), (qa 50, .inl (cJ, 4, .inr (.inl (fun _ => 0)))), (qa 51, .inl (cZ, 4, .inl (fun _ => 0)))] H := hP
        have hD : va_D A [(qa 25, .inl (cZ, 8192, .inl fy_)), (h, .inr (10, mdF qa x0 x2 x3 x4 x13 x14 6 125 (-1) (-1) (-1) 0 0 17 0 (-1) x26 x27 x28)), (qa 31, .inl (cI, 4, .inl (fun _ => 0))), (qa 32, .inl (cI, 4, .inl (fun _ => 0))), (qa 33, .inl (cI, 4, .inl (fun _ => 0))), (qa 34, .inl (cI, 4, .inl (fun _ => 0))), (qa 35, .inl (cI, 4, .inl (fun _ => 0))), (qa 36, .inl (cI, 4, .inl (fun _ => 0))), (qa 37, .inl (cI, 4, .inl (fun _ => 0))), (qa 38, .inl (cI, 4, .inl (fun _ => 0))), (qa 39, .inl (cI, 4, .inl (fun _ => 0))), (qa 40, .inl (cI, 4, .inl (fun _ => 0))), (qa 41, .inl (cI, 4, .inl (fun _ => 0))), (qa 42, .inl (cI, 4, .inl (fun _ => 0))), (qa 43, .inl (cI, 4, .inl (fun _ => 0))), (qa 44, .inl (cI, 4, .inl (fun _ => 0))), (qa 45, .inl (cI, 4, .inl (fun _ => 0))), (qa 46, .inl (cI, 4, .inl (fun _ => 0))), (qa 47, .inl (cI, 4, .inl (fun _ => 0))), (qa 48, .inl (cI, 4, .inl (fun _ => 0))), (qa 49, .inl (cI, 4, .inl (fun _ => 0))), (qa 50, .inl (cJ, 4, .inr (.inl (fun _ => 0)))), (qa 51, .inl (cZ, 4, .inl (fun _ => 0)))] := hD
        refine lv_iinc (v := 1) (lv' := [(1, .int 1), (0, .ref h)]) hx hb dX11_start_87 hl (k := 0) rfl (by decide) (by decide) rfl (fun ls hl => ?_)
        refine lv_goto (tgt := 77) hx hb dX11_start_90 (by decide) ?_
        refine lv_iload_n hx hb dX11_start_77 rfl (lv_at hl 0 rfl) ?_
        refine lv_iconst (v := 4) hx hb dX11_start_78 (by decide) ?_
        refine lv_icmp_ge (tgt := 93) hx hb dX11_start_79 (by decide) (fun c_79_2 => absurd c_79_2 (by decide)) (fun c_79_2 => ?_)
        refine lv_aload_n hx hb dX11_start_82 rfl (lv_at hl 1 rfl) ?_
        refine lv_iload_n hx hb dX11_start_83 rfl (lv_at hl 0 rfl) ?_
        refine g_callv (wr := [(qa 25, .inl (cZ, 8192, .inl fy_))]) (va_runV (As := [.int 1]) (rest := []) ⟨hx, hb, hml, hown, hts⟩ (m_silence0 l dC dI H.size h qa x0 x2 x3 x4 x13 x14 6 125 (-1) (-1) (-1) 0 0 17 0 (-1) x26 x27 x28 cI cJ cZ 1 (by decide)) (cwV 1 hts (gG_V kw_228 kw_229 kw_230 kw_5 kw_231) rfl rfl rfl (by decide +kernel) ⟨Nat.le_of_ble_eq_true rfl, Nat.le_of_ble_eq_true rfl⟩) (g_preV (C := RX11) (T := TX11) (N := 53) hP hD hK hS hA hN hZ (q0 := 1) rfl rfl [1, 2, 3, 4, 5, 6, 7, 8, 9, 10, 11, 12, 13, 14, 15, 16, 17, 18, 19, 20, 21, 22] (by decide) rfl [1, 2, 0] rfl) rfl rfl hl.1 rfl (lv_room (Nat.le_of_ble_eq_true rfl)) dX11_start_84 ⟨Nat.le_of_ble_eq_true rfl, Nat.le_of_ble_eq_true rfl⟩) hP hD hK hS hA [1, 2, 3, 4, 5, 6, 7, 8, 9, 10, 11, 12, 13, 14, 15, 16, 17, 18, 19, 20, 21, 22] [0] rfl rfl (by decide) (by decide) (fun w ty1 H locs hw_84 hP hD _ hS => ?_)
        have hu := hw_84
        cases hu
        have hP : va_P (dC, dI) vwCl [(qa 25, .inl (cZ, 8192, .inl fy_)), (h, .inr (10, mdF qa x0 x2 x3 x4 x13 x14 6 125 (-1) (-1) (-1) 0 0 17 0 (-1) x26 x27 x28)), (qa 31, .inl (cI, 4, .inl (fun _ => 0))), (qa 32, .inl (cI, 4, .inl (fun _ => 0))), (qa 33, .inl (cI, 4, .inl (fun _ => 0))), (qa 34, .inl (cI, 4, .inl (fun _ => 0))), (qa 35, .inl (cI, 4, .inl (fun _ => 0))), (qa 36, .inl (cI, 4, .inl (fun _ => 0))), (qa 37, .inl (cI, 4, .inl (fun _ => 0))), (qa 38, .inl (cI, 4, .inl (fun _ => 0))), (qa 39, .inl (cI, 4, .inl (fun _ => 0))), (qa 40, .inl (cI, 4, .inl (fun _ => 0))), (qa 41, .inl (cI, 4, .inl (fun _ => 0))), (qa 42, .inl (cI, 4, .inl (fun _ => 0))), (qa 43, .inl (cI, 4, .inl (fun _ => 0))), (qa 44, .inl (cI, 4, .inl (fun _ => 0))), (qa 45, .inl (cI, 4, .inl (fun _ => 0))), (qa 46, .inl (cI, 4, .inl (fun _ => 0))), (qa 47, .inl (cI, 4, .inl (fun _ => 0))), (qa 48, .inl (cI, 4, .inl (fun _ => 0))), (qa 49, .inl (cI, 4, .inl (fun _ => 0))), (qa 50, .inl (cJ, 4, .inr (.inl (fun _ => 0)))), (qa 51, .inl (cZ, 4, .inl (fun _ => 0)))] H := hP
        have hD : va_D A [(qa 25, .inl (cZ, 8192, .inl fy_)), (h, .inr (10, mdF qa x0 x2 x3 x4 x13 x14 6 125 (-1) (-1) (-1) 0 0 17 0 (-1) x26 x27 x28)), (qa 31, .inl (cI, 4, .inl (fun _ => 0))), (qa 32, .inl (cI, 4, .inl (fun _ => 0))), (qa 33, .inl (cI, 4, .inl (fun _ => 0))), (qa 34, .inl (cI, 4, .inl (fun _ => 0))), (qa 35, .inl (cI, 4, .inl (fun _ => 0))), (qa 36, .inl (cI, 4, .inl (fun _ => 0))), (qa 37, .inl (cI, 4, .inl (fun _ => 0))), (qa 38, .inl (cI, 4, .inl (fun _ => 0))), (qa 39, .inl (cI, 4, .inl (fun _ => 0))), (qa 40, .inl (cI, 4, .inl (fun _ => 0))), (qa 41, .inl (cI, 4, .inl (fun _ => 0))), (qa 42, .inl (cI, 4, .inl (fun _ => 0))), (qa 43, .inl (cI, 4, .inl (fun _ => 0))), (qa 44, .inl (cI, 4, .inl (fun _ => 0))), (qa 45, .inl (cI, 4, .inl (fun _ => 0))), (qa 46, .inl (cI, 4, .inl (fun _ => 0))), (qa 47, .inl (cI, 4, .inl (fun _ => 0))), (qa 48, .inl (cI, 4, .inl (fun _ => 0))), (qa 49, .inl (cI, 4, .inl (fun _ => 0))), (qa 50, .inl (cJ, 4, .inr (.inl (fun _ => 0)))), (qa 51, .inl (cZ, 4, .inl (fun _ => 0)))] := hD
        refine lv_iinc (v := 2) (lv' := [(1, .int 2), (0, .ref h)]) hx hb dX11_start_87 hl (k := 0) rfl (by decide) (by decide) rfl (fun ls hl => ?_)
        refine lv_goto (tgt := 77) hx hb dX11_start_90 (by decide) ?_
        refine lv_iload_n hx hb dX11_start_77 rfl (lv_at hl 0 rfl) ?_
        refine lv_iconst (v := 4) hx hb dX11_start_78 (by decide) ?_
        refine lv_icmp_ge (tgt := 93) hx hb dX11_start_79 (by decide) (fun c_79_3 => absurd c_79_3 (by decide)) (fun c_79_3 => ?_)
        refine lv_aload_n hx hb dX11_start_82 rfl (lv_at hl 1 rfl) ?_
        refine lv_iload_n hx hb dX11_start_83 rfl (lv_at hl 0 rfl) ?_
        refine g_callv (wr := [(qa 25, .inl (cZ, 8192, .inl fy_))]) (va_runV (As := [.int 2]) (rest := []) ⟨hx, hb, hml, hown, hts⟩ (m_silence0 l dC dI H.size h qa x0 x2 x3 x4 x13 x14 6 125 (-1) (-1) (-1) 0 0 17 0 (-1) x26 x27 x28 cI cJ cZ 2 (by decide)) (cwV 1 hts (gG_V kw_228 kw_229 kw_230 kw_5 kw_231) rfl rfl rfl (by decide +kernel) ⟨Nat.le_of_ble_eq_true rfl, Nat.le_of_ble_eq_true rfl⟩) (g_preV (C := RX11) (T := TX11) (N := 53) hP hD hK hS hA hN hZ (q0 := 1) rfl rfl [1, 2, 3, 4, 5, 6, 7, 8, 9, 10, 11, 12, 13, 14, 15, 16, 17, 18, 19, 20, 21, 22] (by decide) rfl [1, 2, 0] rfl) rfl rfl hl.1 rfl (lv_room (Nat.le_of_ble_eq_true rfl)) dX11_start_84 ⟨Nat.le_of_ble_eq_true rfl, Nat.le_of_ble_eq_true rfl⟩) hP hD hK hS hA [1, 2, 3, 4, 5, 6, 7, 8, 9, 10, 11, 12, 13, 14, 15, 16, 17, 18, 19, 20, 21, 22] [0] rfl rfl (by decide) (by decide) (fun w ty1 H locs hw_84 hP hD _ hS => ?_)
        have hu := hw_84
        cases hu
        have hP : va_P (dC, dI) vwCl [(qa 25, .inl (cZ, 8192, .inl fy_)), (h, .inr (10, mdF qa x0 x2 x3 x4 x13 x14 6 125 (-1) (-1) (-1) 0 0 17 0 (-1) x26 x27 x28)), (qa 31, .inl (cI, 4, .inl (fun _ => 0))), (qa 32, .inl (cI, 4, .inl (fun _ => 0))), (qa 33, .inl (cI, 4, .inl (fun _ => 0))), (qa 34, .inl (cI, 4, .inl (fun _ => 0))), (qa 35, .inl (cI, 4, .inl (fun _ => 0))), (qa 36, .inl (cI, 4, .inl (fun _ => 0))), (qa 37, .inl (cI, 4, .inl (fun _ => 0))), (qa 38, .inl (cI, 4, .inl (fun _ => 0))), (qa 39, .inl (cI, 4, .inl (fun _ => 0))), (qa 40, .inl (cI, 4, .inl (fun _ => 0))), (qa 41, .inl (cI, 4, .inl (fun _ => 0))), (qa 42, .inl (cI, 4, .inl (fun _ => 0))), (qa 43, .inl (cI, 4, .inl (fun _ => 0))), (qa 44, .inl (cI, 4, .inl (fun _ => 0))), (qa 45, .inl (cI, 4, .inl (fun _ => 0))), (qa 46, .inl (cI, 4, .inl (fun _ => 0))), (qa 47, .inl (cI, 4, .inl (fun _ => 0))), (qa 48, .inl (cI, 4, .inl (fun _ => 0))), (qa 49, .inl (cI, 4, .inl (fun _ => 0))), (qa 50, .inl (cJ, 4, .inr (.inl (fun _ => 0)))), (qa 51, .inl (cZ, 4, .inl (fun _ => 0)))] H := hP
        have hD : va_D A [(qa 25, .inl (cZ, 8192, .inl fy_)), (h, .inr (10, mdF qa x0 x2 x3 x4 x13 x14 6 125 (-1) (-1) (-1) 0 0 17 0 (-1) x26 x27 x28)), (qa 31, .inl (cI, 4, .inl (fun _ => 0))), (qa 32, .inl (cI, 4, .inl (fun _ => 0))), (qa 33, .inl (cI, 4, .inl (fun _ => 0))), (qa 34, .inl (cI, 4, .inl (fun _ => 0))), (qa 35, .inl (cI, 4, .inl (fun _ => 0))), (qa 36, .inl (cI, 4, .inl (fun _ => 0))), (qa 37, .inl (cI, 4, .inl (fun _ => 0))), (qa 38, .inl (cI, 4, .inl (fun _ => 0))), (qa 39, .inl (cI, 4, .inl (fun _ => 0))), (qa 40, .inl (cI, 4, .inl (fun _ => 0))), (qa 41, .inl (cI, 4, .inl (fun _ => 0))), (qa 42, .inl (cI, 4, .inl (fun _ => 0))), (qa 43, .inl (cI, 4, .inl (fun _ => 0))), (qa 44, .inl (cI, 4, .inl (fun _ => 0))), (qa 45, .inl (cI, 4, .inl (fun _ => 0))), (qa 46, .inl (cI, 4, .inl (fun _ => 0))), (qa 47, .inl (cI, 4, .inl (fun _ => 0))), (qa 48, .inl (cI, 4, .inl (fun _ => 0))), (qa 49, .inl (cI, 4, .inl (fun _ => 0))), (qa 50, .inl (cJ, 4, .inr (.inl (fun _ => 0)))), (qa 51, .inl (cZ, 4, .inl (fun _ => 0)))] := hD
        refine lv_iinc (v := 3) (lv' := [(1, .int 3), (0, .ref h)]) hx hb dX11_start_87 hl (k := 0) rfl (by decide) (by decide) rfl (fun ls hl => ?_)
        refine lv_goto (tgt := 77) hx hb dX11_start_90 (by decide) ?_
        refine lv_iload_n hx hb dX11_start_77 rfl (lv_at hl 0 rfl) ?_
        refine lv_iconst (v := 4) hx hb dX11_start_78 (by decide) ?_
        refine lv_icmp_ge (tgt := 93) hx hb dX11_start_79 (by decide) (fun c_79_4 => absurd c_79_4 (by decide)) (fun c_79_4 => ?_)
        refine lv_aload_n hx hb dX11_start_82 rfl (lv_at hl 1 rfl) ?_
        refine lv_iload_n hx hb dX11_start_83 rfl (lv_at hl 0 rfl) ?_
        refine g_callv (wr := [(qa 25, .inl (cZ, 8192, .inl fy_))]) (va_runV (As := [.int 3]) (rest := []) ⟨hx, hb, hml, hown, hts⟩ (m_silence0 l dC dI H.size h qa x0 x2 x3 x4 x13 x14 6 125 (-1) (-1) (-1) 0 0 17 0 (-1) x26 x27 x28 cI cJ cZ 3 (by decide)) (cwV 1 hts (gG_V kw_228 kw_229 kw_230 kw_5 kw_231) rfl rfl rfl (by decide +kernel) ⟨Nat.le_of_ble_eq_true rfl, Nat.le_of_ble_eq_true rfl⟩) (g_preV (C := RX11) (T := TX11) (N := 53) hP hD hK hS hA hN hZ (q0 := 1) rfl rfl [1, 2, 3, 4, 5, 6, 7, 8, 9, 10, 11, 12, 13, 14, 15, 16, 17, 18, 19, 20, 21, 22] (by decide) rfl [1, 2, 0] rfl) rfl rfl hl.1 rfl (lv_room (Nat.le_of_ble_eq_true rfl)) dX11_start_84 ⟨Nat.le_of_ble_eq_true rfl, Nat.le_of_ble_eq_true rfl⟩) hP hD hK hS hA [1, 2, 3, 4, 5, 6, 7, 8, 9, 10, 11, 12, 13, 14, 15, 16, 17, 18, 19, 20, 21, 22] [0] rfl rfl (by decide) (by decide) (fun w ty1 H locs hw_84 hP hD _ hS => ?_)
        have hu := hw_84
        cases hu
        have hP : va_P (dC, dI) vwCl [(qa 25, .inl (cZ, 8192, .inl fy_)), (h, .inr (10, mdF qa x0 x2 x3 x4 x13 x14 6 125 (-1) (-1) (-1) 0 0 17 0 (-1) x26 x27 x28)), (qa 31, .inl (cI, 4, .inl (fun _ => 0))), (qa 32, .inl (cI, 4, .inl (fun _ => 0))), (qa 33, .inl (cI, 4, .inl (fun _ => 0))), (qa 34, .inl (cI, 4, .inl (fun _ => 0))), (qa 35, .inl (cI, 4, .inl (fun _ => 0))), (qa 36, .inl (cI, 4, .inl (fun _ => 0))), (qa 37, .inl (cI, 4, .inl (fun _ => 0))), (qa 38, .inl (cI, 4, .inl (fun _ => 0))), (qa 39, .inl (cI, 4, .inl (fun _ => 0))), (qa 40, .inl (cI, 4, .inl (fun _ => 0))), (qa 41, .inl (cI, 4, .inl (fun _ => 0))), (qa 42, .inl (cI, 4, .inl (fun _ => 0))), (qa 43, .inl (cI, 4, .inl (fun _ => 0))), (qa 44, .inl (cI, 4, .inl (fun _ => 0))), (qa 45, .inl (cI, 4, .inl (fun _ => 0))), (qa 46, .inl (cI, 4, .inl (fun _ => 0))), (qa 47, .inl (cI, 4, .inl (fun _ => 0))), (qa 48, .inl (cI, 4, .inl (fun _ => 0))), (qa 49, .inl (cI, 4, .inl (fun _ => 0))), (qa 50, .inl (cJ, 4, .inr (.inl (fun _ => 0)))), (qa 51, .inl (cZ, 4, .inl (fun _ => 0)))] H := hP
        have hD : va_D A [(qa 25, .inl (cZ, 8192, .inl fy_)), (h, .inr (10, mdF qa x0 x2 x3 x4 x13 x14 6 125 (-1) (-1) (-1) 0 0 17 0 (-1) x26 x27 x28)), (qa 31, .inl (cI, 4, .inl (fun _ => 0))), (qa 32, .inl (cI, 4, .inl (fun _ => 0))), (qa 33, .inl (cI, 4, .inl (fun _ => 0))), (qa 34, .inl (cI, 4, .inl (fun _ => 0))), (qa 35, .inl (cI, 4, .inl (fun _ => 0))), (qa 36, .inl (cI, 4, .inl (fun _ => 0))), (qa 37, .inl (cI, 4, .inl (fun _ => 0))), (qa 38, .inl (cI, 4, .inl (fun _ => 0))), (qa 39, .inl (cI, 4, .inl (fun _ => 0))), (qa 40, .inl (cI, 4, .inl (fun _ => 0))), (qa 41, .inl (cI, 4, .inl (fun _ => 0))), (qa 42, .inl (cI, 4, .inl (fun _ => 0))), (qa 43, .inl (cI, 4, .inl (fun _ => 0))), (qa 44, .inl (cI, 4, .inl (fun _ => 0))), (qa 45, .inl (cI, 4, .inl (fun _ => 0))), (qa 46, .inl (cI, 4, .inl (fun _ => 0))), (qa 47, .inl (cI, 4, .inl (fun _ => 0))), (qa 48, .inl (cI, 4, .inl (fun _ => 0))), (qa 49, .inl (cI, 4, .inl (fun _ => 0))), (qa 50, .inl (cJ, 4, .inr (.inl (fun _ => 0)))), (qa 51, .inl (cZ, 4, .inl (fun _ => 0)))] := hD
        refine lv_iinc (v := 4) (lv' := [(1, .int 4), (0, .ref h)]) hx hb dX11_start_87 hl (k := 0) rfl (by decide) (by decide) rfl (fun ls hl => ?_)
        refine lv_goto (tgt := 77) hx hb dX11_start_90 (by decide) ?_
        refine lv_iload_n hx hb dX11_start_77 rfl (lv_at hl 0 rfl) ?_
        refine lv_iconst (v := 4) hx hb dX11_start_78 (by decide) ?_
        refine lv_icmp_ge (tgt := 93) hx hb dX11_start_79 (by decide) (fun c_79_5 => ?_) (fun c_79_5 => absurd c_79_5 (by decide))
        have hP9 := hP.sub (ws' := [(h, .inr (10, mdF qa x0 x2 x3 x4 x13 x14 6 125 (-1) (-1) (-1) 0 0 17 0 (-1) x26 x27 x28)), (qa 25, .inl (cZ, 8192, .inl fy_)), (qa 31, .inl (cI, 4, .inl (fun _ => 0))), (qa 32, .inl (cI, 4, .inl (fun _ => 0))), (qa 33, .inl (cI, 4, .inl (fun _ => 0))), (qa 34, .inl (cI, 4, .inl (fun _ => 0))), (qa 35, .inl (cI, 4, .inl (fun _ => 0))), (qa 36, .inl (cI, 4, .inl (fun _ => 0))), (qa 37, .inl (cI, 4, .inl (fun _ => 0))), (qa 38, .inl (cI, 4, .inl (fun _ => 0))), (qa 39, .inl (cI, 4, .inl (fun _ => 0))), (qa 40, .inl (cI, 4, .inl (fun _ => 0))), (qa 41, .inl (cI, 4, .inl (fun _ => 0))), (qa 42, .inl (cI, 4, .inl (fun _ => 0))), (qa 43, .inl (cI, 4, .inl (fun _ => 0))), (qa 44, .inl (cI, 4, .inl (fun _ => 0))), (qa 45, .inl (cI, 4, .inl (fun _ => 0))), (qa 46, .inl (cI, 4, .inl (fun _ => 0))), (qa 47, .inl (cI, 4, .inl (fun _ => 0))), (qa 48, .inl (cI, 4, .inl (fun _ => 0))), (qa 49, .inl (cI, 4, .inl (fun _ => 0))), (qa 50, .inl (cJ, 4, .inr (.inl (fun _ => 0)))), (qa 51, .inl (cZ, 4, .inl (fun _ => 0)))]) [1, 0, 2, 3, 4, 5, 6, 7, 8, 9, 10, 11, 12, 13, 14, 15, 16, 17, 18, 19, 20, 21, 22] rfl
        have hD9 := hD.sub (ws' := [(h, .inr (10, mdF qa x0 x2 x3 x4 x13 x14 6 125 (-1) (-1) (-1) 0 0 17 0 (-1) x26 x27 x28)), (qa 25, .inl (cZ, 8192, .inl fy_)), (qa 31, .inl (cI, 4, .inl (fun _ => 0))), (qa 32, .inl (cI, 4, .inl (fun _ => 0))), (qa 33, .inl (cI, 4, .inl (fun _ => 0))), (qa 34, .inl (cI, 4, .inl (fun _ => 0))), (qa 35, .inl (cI, 4, .inl (fun _ => 0))), (qa 36, .inl (cI, 4, .inl (fun _ => 0))), (qa 37, .inl (cI, 4, .inl (fun _ => 0))), (qa 38, .inl (cI, 4, .inl (fun _ => 0))), (qa 39, .inl (cI, 4, .inl (fun _ => 0))), (qa 40, .inl (cI, 4, .inl (fun _ => 0))), (qa 41, .inl (cI, 4, .inl (fun _ => 0))), (qa 42, .inl (cI, 4, .inl (fun _ => 0))), (qa 43, .inl (cI, 4, .inl (fun _ => 0))), (qa 44, .inl (cI, 4, .inl (fun _ => 0))), (qa 45, .inl (cI, 4, .inl (fun _ => 0))), (qa 46, .inl (cI, 4, .inl (fun _ => 0))), (qa 47, .inl (cI, 4, .inl (fun _ => 0))), (qa 48, .inl (cI, 4, .inl (fun _ => 0))), (qa 49, .inl (cI, 4, .inl (fun _ => 0))), (qa 50, .inl (cJ, 4, .inr (.inl (fun _ => 0)))), (qa 51, .inl (cZ, 4, .inl (fun _ => 0)))]) [1, 0, 2, 3, 4, 5, 6, 7, 8, 9, 10, 11, 12, 13, 14, 15, 16, 17, 18, 19, 20, 21, 22] (by decide) rfl
        have hK9 := hK.sub (tys' := []) [] rfl
        exact W.vret hx hb hr (fun t ht hW => ⟨⟨([(h, .inr (10, mdF qa x0 x2 x3 x4 x13 x14 6 125 (-1) (-1) (-1) 0 0 17 0 (-1) x26 x27 x28)), (qa 25, .inl (cZ, 8192, .inl fy_)), (qa 31, .inl (cI, 4, .inl (fun _ => 0))), (qa 32, .inl (cI, 4, .inl (fun _ => 0))), (qa 33, .inl (cI, 4, .inl (fun _ => 0))), (qa 34, .inl (cI, 4, .inl (fun _ => 0))), (qa 35, .inl (cI, 4, .inl (fun _ => 0))), (qa 36, .inl (cI, 4, .inl (fun _ => 0))), (qa 37, .inl (cI, 4, .inl (fun _ => 0))), (qa 38, .inl (cI, 4, .inl (fun _ => 0))), (qa 39, .inl (cI, 4, .inl (fun _ => 0))), (qa 40, .inl (cI, 4, .inl (fun _ => 0))), (qa 41, .inl (cI, 4, .inl (fun _ => 0))), (qa 42, .inl (cI, 4, .inl (fun _ => 0))), (qa 43, .inl (cI, 4, .inl (fun _ => 0))), (qa 44, .inl (cI, 4, .inl (fun _ => 0))), (qa 45, .inl (cI, 4, .inl (fun _ => 0))), (qa 46, .inl (cI, 4, .inl (fun _ => 0))), (qa 47, .inl (cI, 4, .inl (fun _ => 0))), (qa 48, .inl (cI, 4, .inl (fun _ => 0))), (qa 49, .inl (cI, 4, .inl (fun _ => 0))), (qa 50, .inl (cJ, 4, .inr (.inl (fun _ => 0)))), (qa 51, .inl (cZ, 4, .inl (fun _ => 0)))], []), rfl, ⟨fy_, rfl⟩, by rw [ht]; exact hP9, va_K.moved hW.alike hK9, hD9⟩, hS.F ht⟩) hS.2.2 dX11_start_93
      refine lv_aload_n hx hb dX11_start_62 rfl (lv_at hl 1 rfl) ?_
      refine va_get (D := (dC, dI)) (ci := 10) (v := .ref (qa 25)) (C := RX11) (T := TX11) (N := 53) hx hb hts iwX11 hown hK hP 0 rfl rfl 25 (by decide) (hts (.fieldLink RX11 46 "ModulePlayerModel" "begun" "[Z") (List.mem_cons_of_mem _ kw_184)) (fun _ h9 => h9) rfl dX11_start_63 ?_
      refine lv_iload_n hx hb dX11_start_66 rfl (lv_at hl 0 rfl) ?_
      refine lv_iconst (v := 0) hx hb dX11_start_67 (by decide) ?_
      refine g_zast hx hb hK hP hD hS 1 0 rfl rfl (x' := 0) (by decide) km (nI_clamp (Nat.lt_trans (show km < 8192 from by have := nI_nle' (a := 8192) c_59 (by omega); omega) (by decide))) (vp_in_nI (by have := nI_nle' (a := 8192) c_59 (by omega); omega) (by decide)) dX11_start_68 (fun H locs hP hD hS => ?_)
      have hP : va_P (dC, dI) vwCl [(h, .inr (10, mdF qa x0 x2 x3 x4 x13 x14 6 125 (-1) (-1) (-1) 0 0 17 0 (-1) x26 x27 x28)), (qa 25, .inl (cZ, 8192, .inl (upd fy_ km 0))), (qa 31, .inl (cI, 4, .inl (fun _ => 0))), (qa 32, .inl (cI, 4, .inl (fun _ => 0))), (qa 33, .inl (cI, 4, .inl (fun _ => 0))), (qa 34, .inl (cI, 4, .inl (fun _ => 0))), (qa 35, .inl (cI, 4, .inl (fun _ => 0))), (qa 36, .inl (cI, 4, .inl (fun _ => 0))), (qa 37, .inl (cI, 4, .inl (fun _ => 0))), (qa 38, .inl (cI, 4, .inl (fun _ => 0))), (qa 39, .inl (cI, 4, .inl (fun _ => 0))), (qa 40, .inl (cI, 4, .inl (fun _ => 0))), (qa 41, .inl (cI, 4, .inl (fun _ => 0))), (qa 42, .inl (cI, 4, .inl (fun _ => 0))), (qa 43, .inl (cI, 4, .inl (fun _ => 0))), (qa 44, .inl (cI, 4, .inl (fun _ => 0))), (qa 45, .inl (cI, 4, .inl (fun _ => 0))), (qa 46, .inl (cI, 4, .inl (fun _ => 0))), (qa 47, .inl (cI, 4, .inl (fun _ => 0))), (qa 48, .inl (cI, 4, .inl (fun _ => 0))), (qa 49, .inl (cI, 4, .inl (fun _ => 0))), (qa 50, .inl (cJ, 4, .inr (.inl (fun _ => 0)))), (qa 51, .inl (cZ, 4, .inl (fun _ => 0)))] H := hP
      have hD : va_D A [(h, .inr (10, mdF qa x0 x2 x3 x4 x13 x14 6 125 (-1) (-1) (-1) 0 0 17 0 (-1) x26 x27 x28)), (qa 25, .inl (cZ, 8192, .inl (upd fy_ km 0))), (qa 31, .inl (cI, 4, .inl (fun _ => 0))), (qa 32, .inl (cI, 4, .inl (fun _ => 0))), (qa 33, .inl (cI, 4, .inl (fun _ => 0))), (qa 34, .inl (cI, 4, .inl (fun _ => 0))), (qa 35, .inl (cI, 4, .inl (fun _ => 0))), (qa 36, .inl (cI, 4, .inl (fun _ => 0))), (qa 37, .inl (cI, 4, .inl (fun _ => 0))), (qa 38, .inl (cI, 4, .inl (fun _ => 0))), (qa 39, .inl (cI, 4, .inl (fun _ => 0))), (qa 40, .inl (cI, 4, .inl (fun _ => 0))), (qa 41, .inl (cI, 4, .inl (fun _ => 0))), (qa 42, .inl (cI, 4, .inl (fun _ => 0))), (qa 43, .inl (cI, 4, .inl (fun _ => 0))), (qa 44, .inl (cI, 4, .inl (fun _ => 0))), (qa 45, .inl (cI, 4, .inl (fun _ => 0))), (qa 46, .inl (cI, 4, .inl (fun _ => 0))), (qa 47, .inl (cI, 4, .inl (fun _ => 0))), (qa 48, .inl (cI, 4, .inl (fun _ => 0))), (qa 49, .inl (cI, 4, .inl (fun _ => 0))), (qa 50, .inl (cJ, 4, .inr (.inl (fun _ => 0)))), (qa 51, .inl (cZ, 4, .inl (fun _ => 0)))] := hD
      generalize upd fy_ km 0 = fg__68 at hP hD
      refine lv_iinc (v := nI (km + 1)) (lv' := [(1, .int (nI (km + 1))), (0, .ref h)]) hx hb dX11_start_69 hl (k := 0) rfl (nI_1 km) (by decide) rfl (fun ls hl => ?_)
      refine lv_goto (tgt := 55) hx hb dX11_start_72 (by decide) ?_
      exact ih55 (km + 1) fg__68 (by have := nI_nle' (a := 8192) c_59 (by omega); omega) (by have := nI_nle' (a := 8192) c_59 (by omega); omega) _ _ (hP.sub [0, 1, 2, 3, 4, 5, 6, 7, 8, 9, 10, 11, 12, 13, 14, 15, 16, 17, 18, 19, 20, 21, 22] rfl) (hD.sub [0, 1, 2, 3, 4, 5, 6, 7, 8, 9, 10, 11, 12, 13, 14, 15, 16, 17, 18, 19, 20, 21, 22] (by decide) rfl) hS _ (lv_sub hl [0, 1] rfl)
  exact LP55 _ 0 fz (Nat.zero_le _) (Nat.lt_succ_self _) _ _ (hP.sub [0, 1, 2, 3, 4, 5, 6, 7, 8, 9, 10, 11, 12, 13, 14, 15, 16, 17, 18, 19, 20, 21, 22] rfl) (hD.sub [0, 1, 2, 3, 4, 5, 6, 7, 8, 9, 10, 11, 12, 13, 14, 15, 16, 17, 18, 19, 20, 21, 22] (by decide) rfl) hS _ (lv_sub hl [0, 1] rfl)

set_option maxHeartbeats 400000 in
set_option maxRecDepth 100000 in
theorem m_effect0 (l : Launch) (dC : Nat → ClassId) (dI : Nat → Nat → Nat) (sz : Nat) : Met l yX11_effect (wsG (.code yX11_effect cX11_effect 1 (some .int))) ({ frames := 0, cells := 0, slots := 0, locals := 0 }) (va_Pc [.int 0] (gP (dC, dI) [] [] sz)) (va_Qi (fun (r : Int32) (u : va_W × gT) => u = ([], []) ∧ r = 0) (gB (dC, dI) (va_A [] sz)) (va_A [] sz)) 0 0 (va_A [] sz) := by
  refine Met.ofW (cc := cX11_effect) (maxL := 1) (ret := (some .int)) (by decide) rfl ?_
  intro p e s m args below meth c s₁ B hml hv
  obtain ⟨rfl, hsz, hP, hK, hD0, hN, hZ⟩ := hv
  have hx := B.exec
  have hb := B.bytes
  have hr := B.returns
  have hts := atoms_spec (ws := (wsG (.code yX11_effect cX11_effect 1 (some .int)))) B.pre
  have hown : s.vm.findClass RX11 = some m.cls := findClass_of_methodNamed B.named
  have hlocks := B.notSynchronized
  subst hsz
  have hD := hD0.self (sz := s.heap.size)
  generalize hAe : va_A [] s.heap.size = A at hD hZ ⊢
  have hA : ∀ q : Nat, s.heap.size ≤ q → A q := fun q h => by rw [← hAe]; exact Or.inr h
  have hl := lv_entry ([.int 0]) (n := 1) (Nat.le_of_ble_eq_true rfl)
  rw [lg_entry_eq]
  generalize (lg_sl ([.int 0]) ++ List.replicate (1 - (lg_sl ([.int 0])).length) Slot.unset).toArray = ls at hl ⊢
  have hl : lv_has ls 1 [(0, .int 0)] := hl
  refine g_start (A := A) hP (fun H locs hP hS => ?_)
  refine lv_iload_n hx hb dX11_effect_0 rfl (lv_at hl 0 rfl) ?_
  refine lv_bipush (v := 8) hx hb dX11_effect_1 (by decide) ?_
  refine lv_ishr hx hb dX11_effect_3 ?_
  refine g_topi (y := 0) (by decide) ?_
  refine lv_bipush (v := 15) hx hb dX11_effect_4 (by decide) ?_
  refine lv_iand hx hb dX11_effect_6 ?_
  refine g_topi (y := 0) (by decide) ?_
  have hP9 := hP.sub (ws' := []) [] rfl
  have hD9 := hD.sub (ws' := []) [] (by decide) rfl
  have hK9 := hK.sub (tys' := []) [] rfl
  exact W.iret (v := 0) hx hb hr (fun t ht hW => ⟨⟨0, ([], []), rfl, ⟨rfl, rfl⟩, by rw [ht]; exact hP9, va_K.moved hW.alike hK9, hD9⟩, hS.F ht⟩) hS.2.2 dX11_effect_7

set_option maxHeartbeats 400000 in
set_option maxRecDepth 100000 in
theorem m_isE0 (l : Launch) (dC : Nat → ClassId) (dI : Nat → Nat → Nat) (sz : Nat) (wh : Int32) : Met l yX11_isE (wsG (.code yX11_isE cX11_isE 2 (some .boolean))) ({ frames := 1, cells := 0, slots := 0, locals := 20 }) (va_Pc [.int 0, .int wh] (gP (dC, dI) [] [] sz)) (va_Qi (fun (r : Int32) (u : va_W × gT) => u = ([], []) ∧ r = 0) (gB (dC, dI) (va_A [] sz)) (va_A [] sz)) 0 0 (va_A [] sz) := by
  refine Met.ofW (cc := cX11_isE) (maxL := 2) (ret := (some .boolean)) (by decide) rfl ?_
  intro p e s m args below meth c s₁ B hml hv
  obtain ⟨rfl, hsz, hP, hK, hD0, hN, hZ⟩ := hv
  have hx := B.exec
  have hb := B.bytes
  have hr := B.returns
  have hts := atoms_spec (ws := (wsG (.code yX11_isE cX11_isE 2 (some .boolean)))) B.pre
  have hown : s.vm.findClass RX11 = some m.cls := findClass_of_methodNamed B.named
  have hlocks := B.notSynchronized
  subst hsz
  have hD := hD0.self (sz := s.heap.size)
  generalize hAe : va_A [] s.heap.size = A at hD hZ ⊢
  have hA : ∀ q : Nat, s.heap.size ≤ q → A q := fun q h => by rw [← hAe]; exact Or.inr h
  have hl := lv_entry ([.int 0, .int wh]) (n := 2) (Nat.le_of_ble_eq_true rfl)
  rw [lg_entry_eq]
  generalize (lg_sl ([.int 0, .int wh]) ++ List.replicate (2 - (lg_sl ([.int 0, .int wh])).length) Slot.unset).toArray = ls at hl ⊢
  have hl : lv_has ls 2 [(0, .int 0), (1, .int wh)] := hl
  refine g_start (A := A) hP (fun H locs hP hS => ?_)
  refine lv_iload_n hx hb dX11_isE_0 rfl (lv_at hl 0 rfl) ?_
  refine g_calli (wr := []) (va_runS (As := [.int 0]) (rest := []) ⟨hx, hb, hml, hown, hts⟩ (m_effect0 l dC dI H.size  ) (va_cwS 1 hts (gG_S kw_859 kw_860 kw_5 kw_861) rfl rfl rfl (by decide +kernel) ⟨Nat.le_of_ble_eq_true rfl, Nat.le_of_ble_eq_true rfl⟩) (g_preS hP hD hK hS hA hN hZ [] (by decide) rfl [] rfl) rfl rfl hl.1 rfl (lv_room (Nat.le_of_ble_eq_true rfl)) dX11_isE_1 ⟨Nat.le_of_ble_eq_true rfl, Nat.le_of_ble_eq_true rfl⟩) hP hD hK hS hA [] [] rfl rfl (by decide) (by decide) (fun r_1 w ty1 H locs hw_1 hP hD _ hS => ?_)
  rcases hw_1 with ⟨hu, hr_1⟩
  cases hu
  have hP : va_P (dC, dI) vwCl [] H := hP
  have hD : va_D A [] := hD
  refine g_topi (y := 0) hr_1 ?_
  refine lv_bipush (v := 14) hx hb dX11_isE_4 (by decide) ?_
  refine lv_icmp_ne (tgt := 21) hx hb dX11_isE_6 (by decide) (fun c_6 => ?_) (fun c_6 => absurd c_6 (by decide))
  refine lv_iconst (v := 0) hx hb dX11_isE_21 (by decide) ?_
  have hP9 := hP.sub (ws' := []) [] rfl
  have hD9 := hD.sub (ws' := []) [] (by decide) rfl
  have hK9 := hK.sub (tys' := []) [] rfl
  exact W.zret (v := 0) hx hb hr (by decide) (fun t ht hW => ⟨⟨0, ([], []), rfl, ⟨rfl, rfl⟩, by rw [ht]; exact hP9, va_K.moved hW.alike hK9, hD9⟩, hS.F ht⟩) hS.2.2 dX11_isE_22

set_option maxHeartbeats 400000 in
set_option maxRecDepth 100000 in
theorem m_comes0 (l : Launch) (dC : Nat → ClassId) (dI : Nat → Nat → Nat) (sz : Nat) (h : Nat) (qa : Nat → Nat) (x0 x2 x3 x4 x13 x14 x15 x16 x17 x18 x19 x20 x21 x22 x23 x24 x26 x27 x28 : Int32) (cI : ClassId) (cv : Nat) (hcv : cv < 4) : Met l yX11_comes (wsG (.code yX11_comes cX11_comes 5 none)) ({ frames := 0, cells := 0, slots := 0, locals := 0 }) (va_Pc [.ref h, .int (nI cv)] (gP (dC, dI) [(cI, .int)] [(h, .inr (10, mdF qa x0 x2 x3 x4 x13 x14 x15 x16 x17 x18 x19 x20 x21 x22 x23 x24 x26 x27 x28)), (qa 47, .inl (cI, 4, .inl (fun _ => 0)))] sz)) (va_Qv (fun u : va_W × gT => u = ([(h, .inr (10, mdF qa x0 x2 x3 x4 x13 x14 x15 x16 x17 x18 x19 x20 x21 x22 x23 x24 x26 x27 x28)), (qa 47, .inl (cI, 4, .inl (fun _ => 0)))], [])) (gB (dC, dI) (va_A [(h, .inr (10, mdF qa x0 x2 x3 x4 x13 x14 x15 x16 x17 x18 x19 x20 x21 x22 x23 x24 x26 x27 x28)), (qa 47, .inl (cI, 4, .inl (fun _ => 0)))] sz)) (va_A [(h, .inr (10, mdF qa x0 x2 x3 x4 x13 x14 x15 x16 x17 x18 x19 x20 x21 x22 x23 x24 x26 x27 x28)), (qa 47, .inl (cI, 4, .inl (fun _ => 0)))] sz)) 0 0 (va_A [(h, .inr (10, mdF qa x0 x2 x3 x4 x13 x14 x15 x16 x17 x18 x19 x20 x21 x22 x23 x24 x26 x27 x28)), (qa 47, .inl (cI, 4, .inl (fun _ => 0)))] sz) := by
  refine Met.ofW (cc := cX11_comes) (maxL := 5) (ret := none) (by decide) rfl ?_
  intro p e s m args below meth c s₁ B hml hv
  obtain ⟨rfl, hsz, hP, hK, hD0, hN, hZ⟩ := hv
  have hx := B.exec
  have hb := B.bytes
  have hr := B.returns
  have hts := atoms_spec (ws := (wsG (.code yX11_comes cX11_comes 5 none))) B.pre
  have hown : s.vm.findClass RX11 = some m.cls := findClass_of_methodNamed B.named
  have hlocks := B.notSynchronized
  subst hsz
  have hD := hD0.self (sz := s.heap.size)
  generalize hAe : va_A [(h, .inr (10, mdF qa x0 x2 x3 x4 x13 x14 x15 x16 x17 x18 x19 x20 x21 x22 x23 x24 x26 x27 x28)), (qa 47, .inl (cI, 4, .inl (fun _ => 0)))] s.heap.size = A at hD hZ ⊢
  have hA : ∀ q : Nat, s.heap.size ≤ q → A q := fun q h => by rw [← hAe]; exact Or.inr h
  have hl := lv_entry ([.ref h, .int (nI cv)]) (n := 5) (Nat.le_of_ble_eq_true rfl)
  rw [lg_entry_eq]
  generalize (lg_sl ([.ref h, .int (nI cv)]) ++ List.replicate (5 - (lg_sl ([.ref h, .int (nI cv)])).length) Slot.unset).toArray = ls at hl ⊢
  have hl : lv_has ls 5 [(0, .ref h), (1, .int (nI cv))] := hl
  refine g_start (A := A) hP (fun H locs hP hS => ?_)
  refine lv_aload_n hx hb dX11_comes_0 rfl (lv_at hl 0 rfl) ?_
  refine va_get (D := (dC, dI)) (ci := 10) (v := .ref (qa 47)) (C := RX11) (T := TX11) (N := 53) hx hb hts iwX11 hown hK hP 0 rfl rfl 47 (by decide) (hts (.fieldLink RX11 104 "ModulePlayerModel" "cell" "[I") (List.mem_cons_of_mem _ kw_203)) (fun _ h9 => h9) rfl dX11_comes_1 ?_
  refine lv_iload_n hx hb dX11_comes_4 rfl (lv_at hl 1 rfl) ?_
  refine g_iald hx hb hK hP 1 0 rfl rfl cv (nI_clamp (Nat.lt_trans (show cv < 4 from hcv) (by decide))) (vp_in_nI (hcv) (by decide)) dX11_comes_5 ?_
  refine lv_istore_n (lv' := [(2, .int 0), (0, .ref h), (1, .int (nI cv))]) hx hb dX11_comes_6 rfl hl (by decide) rfl (fun ls hl => ?_)
  refine lv_iload_n hx hb dX11_comes_7 rfl (lv_at hl 0 rfl) ?_
  refine lv_bipush (v := 12) hx hb dX11_comes_8 (by decide) ?_
  refine lv_ishr hx hb dX11_comes_10 ?_
  refine g_topi (y := 0) (by decide) ?_
  refine lv_bipush (v := 31) hx hb dX11_comes_11 (by decide) ?_
  refine lv_iand hx hb dX11_comes_13 ?_
  refine g_topi (y := 0) (by decide) ?_
  refine lv_istore_n (lv' := [(3, .int 0), (2, .int 0), (0, .ref h), (1, .int (nI cv))]) hx hb dX11_comes_14 rfl hl (by decide) rfl (fun ls hl => ?_)
  refine lv_iload_n hx hb dX11_comes_15 rfl (lv_at hl 1 rfl) ?_
  refine lv_bipush (v := 17) hx hb dX11_comes_16 (by decide) ?_
  refine lv_ishr hx hb dX11_comes_18 ?_
  refine g_topi (y := 0) (by decide) ?_
  refine lv_istore (lv' := [(4, .int 0), (3, .int 0), (2, .int 0), (0, .ref h), (1, .int (nI cv))]) hx hb dX11_comes_19 hl (by decide) rfl (fun ls hl => ?_)
  refine lv_iload_n hx hb dX11_comes_21 rfl (lv_at hl 1 rfl) ?_
  refine lv_if_le (tgt := 56) hx hb dX11_comes_22 (by decide) (fun c_22 => ?_) (fun c_22 => absurd c_22 (by decide))
  refine lv_iload hx hb dX11_comes_56 (lv_at hl 0 rfl) ?_
  refine lv_if_ne (tgt := 62) hx hb dX11_comes_58 (by decide) (fun c_58 => absurd c_58 (by decide)) (fun c_58 => ?_)
  have hP9 := hP.sub (ws' := [(h, .inr (10, mdF qa x0 x2 x3 x4 x13 x14 x15 x16 x17 x18 x19 x20 x21 x22 x23 x24 x26 x27 x28)), (qa 47, .inl (cI, 4, .inl (fun _ => 0)))]) [0, 1] rfl
  have hD9 := hD.sub (ws' := [(h, .inr (10, mdF qa x0 x2 x3 x4 x13 x14 x15 x16 x17 x18 x19 x20 x21 x22 x23 x24 x26 x27 x28)), (qa 47, .inl (cI, 4, .inl (fun _ => 0)))]) [0, 1] (by decide) rfl
  have hK9 := hK.sub (tys' := []) [] rfl
  exact W.vret hx hb hr (fun t ht hW => ⟨⟨([(h, .inr (10, mdF qa x0 x2 x3 x4 x13 x14 x15 x16 x17 x18 x19 x20 x21 x22 x23 x24 x26 x27 x28)), (qa 47, .inl (cI, 4, .inl (fun _ => 0)))], []), rfl, rfl, by rw [ht]; exact hP9, va_K.moved hW.alike hK9, hD9⟩, hS.F ht⟩) hS.2.2 dX11_comes_61

set_option maxHeartbeats 400000 in
set_option maxRecDepth 100000 in
theorem m_first0 (l : Launch) (dC : Nat → ClassId) (dI : Nat → Nat → Nat) (sz : Nat) (h : Nat) (qa : Nat → Nat) (x0 x2 x3 x4 x13 x14 x15 x16 x17 x18 x19 x20 x21 x22 x23 x24 x26 x27 x28 : Int32) (cv : Nat) : Met l yX11_first (wsG (.code yX11_first cX11_first 4 none)) ({ frames := 1, cells := 0, slots := 0, locals := 20 }) (va_Pc [.ref h, .int (nI cv), .int 0] (gP (dC, dI) [] [(h, .inr (10, mdF qa x0 x2 x3 x4 x13 x14 x15 x16 x17 x18 x19 x20 x21 x22 x23 x24 x26 x27 x28))] sz)) (va_Qv (fun u : va_W × gT => u = ([(h, .inr (10, mdF qa x0 x2 x3 x4 x13 x14 x15 x16 x17 x18 x19 x20 x21 x22 x23 x24 x26 x27 x28))], [])) (gB (dC, dI) (va_A [(h, .inr (10, mdF qa x0 x2 x3 x4 x13 x14 x15 x16 x17 x18 x19 x20 x21 x22 x23 x24 x26 x27 x28))] sz)) (va_A [(h, .inr (10, mdF qa x0 x2 x3 x4 x13 x14 x15 x16 x17 x18 x19 x20 x21 x22 x23 x24 x26 x27 x28))] sz)) 0 0 (va_A [(h, .inr (10, mdF qa x0 x2 x3 x4 x13 x14 x15 x16 x17 x18 x19 x20 x21 x22 x23 x24 x26 x27 x28))] sz) := by
  refine Met.ofW (cc := cX11_first) (maxL := 4) (ret := none) (by decide) rfl ?_
  intro p e s m args below meth c s₁ B hml hv
  obtain ⟨rfl, hsz, hP, hK, hD0, hN, hZ⟩ := hv
  have hx := B.exec
  have hb := B.bytes
  have hr := B.returns
  have hts := atoms_spec (ws := (wsG (.code yX11_first cX11_first 4 none))) B.pre
  have hown : s.vm.findClass RX11 = some m.cls := findClass_of_methodNamed B.named
  have hlocks := B.notSynchronized
  subst hsz
  have hD := hD0.self (sz := s.heap.size)
  generalize hAe : va_A [(h, .inr (10, mdF qa x0 x2 x3 x4 x13 x14 x15 x16 x17 x18 x19 x20 x21 x22 x23 x24 x26 x27 x28))] s.heap.size = A at hD hZ ⊢
  have hA : ∀ q : Nat, s.heap.size ≤ q → A q := fun q h => by rw [← hAe]; exact Or.inr h
  have hl := lv_entry ([.ref h, .int (nI cv), .int 0]) (n := 4) (Nat.le_of_ble_eq_true rfl)
  rw [lg_entry_eq]
  generalize (lg_sl ([.ref h, .int (nI cv), .int 0]) ++ List.replicate (4 - (lg_sl ([.ref h, .int (nI cv), .int 0])).length) Slot.unset).toArray = ls at hl ⊢
  have hl : lv_has ls 4 [(0, .ref h), (1, .int (nI cv)), (2, .int 0)] := hl
  refine g_start (A := A) hP (fun H locs hP hS => ?_)
  refine lv_iload_n hx hb dX11_first_0 rfl (lv_at hl 2 rfl) ?_
  refine lv_sipush (v := 255) hx hb dX11_first_1 (by decide) ?_
  refine lv_iand hx hb dX11_first_4 ?_
  refine g_topi (y := 0) (by decide) ?_
  refine lv_istore_n (lv' := [(3, .int 0), (0, .ref h), (1, .int (nI cv)), (2, .int 0)]) hx hb dX11_first_5 rfl hl (by decide) rfl (fun ls hl => ?_)
  refine lv_iload_n hx hb dX11_first_6 rfl (lv_at hl 3 rfl) ?_
  refine g_calli (wr := [(h, .inr (10, mdF qa x0 x2 x3 x4 x13 x14 x15 x16 x17 x18 x19 x20 x21 x22 x23 x24 x26 x27 x28))]) (va_runS (As := [.int 0]) (rest := []) ⟨hx, hb, hml, hown, hts⟩ (m_effect0 l dC dI H.size  ) (va_cwS 1 hts (gG_S kw_859 kw_860 kw_5 kw_861) rfl rfl rfl (by decide +kernel) ⟨Nat.le_of_ble_eq_true rfl, Nat.le_of_ble_eq_true rfl⟩) (g_preS hP hD hK hS hA hN hZ [] (by decide) rfl [] rfl) rfl rfl hl.1 rfl (lv_room (Nat.le_of_ble_eq_true rfl)) dX11_first_7 ⟨Nat.le_of_ble_eq_true rfl, Nat.le_of_ble_eq_true rfl⟩) hP hD hK hS hA [] [0] rfl rfl (by decide) (by decide) (fun r_7 w ty1 H locs hw_7 hP hD _ hS => ?_)
  rcases hw_7 with ⟨hu, hr_7⟩
  cases hu
  have hP : va_P (dC, dI) vwCl [(h, .inr (10, mdF qa x0 x2 x3 x4 x13 x14 x15 x16 x17 x18 x19 x20 x21 x22 x23 x24 x26 x27 x28))] H := hP
  have hD : va_D A [(h, .inr (10, mdF qa x0 x2 x3 x4 x13 x14 x15 x16 x17 x18 x19 x20 x21 x22 x23 x24 x26 x27 x28))] := hD
  refine g_topi (y := 0) hr_7 ?_
  refine lv_tableOut (tgt := 302) hx hb dX11_first_10 (by decide) (by decide) ?_
  have hP9 := hP.sub (ws' := [(h, .inr (10, mdF qa x0 x2 x3 x4 x13 x14 x15 x16 x17 x18 x19 x20 x21 x22 x23 x24 x26 x27 x28))]) [0] rfl
  have hD9 := hD.sub (ws' := [(h, .inr (10, mdF qa x0 x2 x3 x4 x13 x14 x15 x16 x17 x18 x19 x20 x21 x22 x23 x24 x26 x27 x28))]) [0] (by decide) rfl
  have hK9 := hK.sub (tys' := []) [] rfl
  exact W.vret hx hb hr (fun t ht hW => ⟨⟨([(h, .inr (10, mdF qa x0 x2 x3 x4 x13 x14 x15 x16 x17 x18 x19 x20 x21 x22 x23 x24 x26 x27 x28))], []), rfl, rfl, by rw [ht]; exact hP9, va_K.moved hW.alike hK9, hD9⟩, hS.F ht⟩) hS.2.2 dX11_first_302

set_option maxHeartbeats 400000 in
set_option maxRecDepth 100000 in
theorem m_others0 (l : Launch) (dC : Nat → ClassId) (dI : Nat → Nat → Nat) (sz : Nat) (h : Nat) (qa : Nat → Nat) (x0 x2 x3 x4 x13 x14 x15 x16 x17 x18 x19 x20 x21 x22 x23 x24 x26 x27 x28 : Int32) (cv : Nat) : Met l yX11_others (wsG (.code yX11_others cX11_others 5 none)) ({ frames := 1, cells := 0, slots := 0, locals := 20 }) (va_Pc [.ref h, .int (nI cv), .int 0] (gP (dC, dI) [] [(h, .inr (10, mdF qa x0 x2 x3 x4 x13 x14 x15 x16 x17 x18 x19 x20 x21 x22 x23 x24 x26 x27 x28))] sz)) (va_Qv (fun u : va_W × gT => u = ([(h, .inr (10, mdF qa x0 x2 x3 x4 x13 x14 x15 x16 x17 x18 x19 x20 x21 x22 x23 x24 x26 x27 x28))], [])) (gB (dC, dI) (va_A [(h, .inr (10, mdF qa x0 x2 x3 x4 x13 x14 x15 x16 x17 x18 x19 x20 x21 x22 x23 x24 x26 x27 x28))] sz)) (va_A [(h, .inr (10, mdF qa x0 x2 x3 x4 x13 x14 x15 x16 x17 x18 x19 x20 x21 x22 x23 x24 x26 x27 x28))] sz)) 0 0 (va_A [(h, .inr (10, mdF qa x0 x2 x3 x4 x13 x14 x15 x16 x17 x18 x19 x20 x21 x22 x23 x24 x26 x27 x28))] sz) := by
  refine Met.ofW (cc := cX11_others) (maxL := 5) (ret := none) (by decide) rfl ?_
  intro p e s m args below meth c s₁ B hml hv
  obtain ⟨rfl, hsz, hP, hK, hD0, hN, hZ⟩ := hv
  have hx := B.exec
  have hb := B.bytes
  have hr := B.returns
  have hts := atoms_spec (ws := (wsG (.code yX11_others cX11_others 5 none))) B.pre
  have hown : s.vm.findClass RX11 = some m.cls := findClass_of_methodNamed B.named
  have hlocks := B.notSynchronized
  subst hsz
  have hD := hD0.self (sz := s.heap.size)
  generalize hAe : va_A [(h, .inr (10, mdF qa x0 x2 x3 x4 x13 x14 x15 x16 x17 x18 x19 x20 x21 x22 x23 x24 x26 x27 x28))] s.heap.size = A at hD hZ ⊢
  have hA : ∀ q : Nat, s.heap.size ≤ q → A q := fun q h => by rw [← hAe]; exact Or.inr h
  have hl := lv_entry ([.ref h, .int (nI cv), .int 0]) (n := 5) (Nat.le_of_ble_eq_true rfl)
  rw [lg_entry_eq]
  generalize (lg_sl ([.ref h, .int (nI cv), .int 0]) ++ List.replicate (5 - (lg_sl ([.ref h, .int (nI cv), .int 0])).length) Slot.unset).toArray = ls at hl ⊢
  have hl : lv_has ls 5 [(0, .ref h), (1, .int (nI cv)), (2, .int 0)] := hl
  refine g_start (A := A) hP (fun H locs hP hS => ?_)
  refine lv_iload_n hx hb dX11_others_0 rfl (lv_at hl 2 rfl) ?_
  refine lv_sipush (v := 255) hx hb dX11_others_1 (by decide) ?_
  refine lv_iand hx hb dX11_others_4 ?_
  refine g_topi (y := 0) (by decide) ?_
  refine lv_istore_n (lv' := [(3, .int 0), (0, .ref h), (1, .int (nI cv)), (2, .int 0)]) hx hb dX11_others_5 rfl hl (by decide) rfl (fun ls hl => ?_)
  refine lv_iload_n hx hb dX11_others_6 rfl (lv_at hl 3 rfl) ?_
  refine g_calli (wr := [(h, .inr (10, mdF qa x0 x2 x3 x4 x13 x14 x15 x16 x17 x18 x19 x20 x21 x22 x23 x24 x26 x27 x28))]) (va_runS (As := [.int 0]) (rest := []) ⟨hx, hb, hml, hown, hts⟩ (m_effect0 l dC dI H.size  ) (va_cwS 1 hts (gG_S kw_859 kw_860 kw_5 kw_861) rfl rfl rfl (by decide +kernel) ⟨Nat.le_of_ble_eq_true rfl, Nat.le_of_ble_eq_true rfl⟩) (g_preS hP hD hK hS hA hN hZ [] (by decide) rfl [] rfl) rfl rfl hl.1 rfl (lv_room (Nat.le_of_ble_eq_true rfl)) dX11_others_7 ⟨Nat.le_of_ble_eq_true rfl, Nat.le_of_ble_eq_true rfl⟩) hP hD hK hS hA [] [0] rfl rfl (by decide) (by decide) (fun r_7 w ty1 H locs hw_7 hP hD _ hS => ?_)
  rcases hw_7 with ⟨hu, hr_7⟩
  cases hu
  have hP : va_P (dC, dI) vwCl [(h, .inr (10, mdF qa x0 x2 x3 x4 x13 x14 x15 x16 x17 x18 x19 x20 x21 x22 x23 x24 x26 x27 x28))] H := hP
  have hD : va_D A [(h, .inr (10, mdF qa x0 x2 x3 x4 x13 x14 x15 x16 x17 x18 x19 x20 x21 x22 x23 x24 x26 x27 x28))] := hD
  refine g_topi (y := 0) hr_7 ?_
  refine lv_istore (lv' := [(4, .int 0), (3, .int 0), (0, .ref h), (1, .int (nI cv)), (2, .int 0)]) hx hb dX11_others_10 hl (by decide) rfl (fun ls hl => ?_)
  refine lv_iload hx hb dX11_others_12 (lv_at hl 0 rfl) ?_
  refine lv_iconst (v := 1) hx hb dX11_others_14 (by decide) ?_
  refine lv_icmp_ne (tgt := 25) hx hb dX11_others_15 (by decide) (fun c_15 => ?_) (fun c_15 => absurd c_15 (by decide))
  refine lv_iload hx hb dX11_others_25 (lv_at hl 0 rfl) ?_
  refine lv_iconst (v := 2) hx hb dX11_others_27 (by decide) ?_
  refine lv_icmp_ne (tgt := 37) hx hb dX11_others_28 (by decide) (fun c_28 => ?_) (fun c_28 => absurd c_28 (by decide))
  refine lv_iload hx hb dX11_others_37 (lv_at hl 0 rfl) ?_
  refine lv_iconst (v := 3) hx hb dX11_others_39 (by decide) ?_
  refine lv_icmp_eq (tgt := 49) hx hb dX11_others_40 (by decide) (fun c_40 => absurd c_40 (by decide)) (fun c_40 => ?_)
  refine lv_iload hx hb dX11_others_43 (lv_at hl 0 rfl) ?_
  refine lv_iconst (v := 5) hx hb dX11_others_45 (by decide) ?_
  refine lv_icmp_ne (tgt := 141) hx hb dX11_others_46 (by decide) (fun c_46 => ?_) (fun c_46 => absurd c_46 (by decide))
  refine lv_iload hx hb dX11_others_141 (lv_at hl 0 rfl) ?_
  refine lv_iconst (v := 5) hx hb dX11_others_143 (by decide) ?_
  refine lv_icmp_eq (tgt := 161) hx hb dX11_others_144 (by decide) (fun c_144 => absurd c_144 (by decide)) (fun c_144 => ?_)
  refine lv_iload hx hb dX11_others_147 (lv_at hl 0 rfl) ?_
  refine lv_bipush (v := 6) hx hb dX11_others_149 (by decide) ?_
  refine lv_icmp_eq (tgt := 161) hx hb dX11_others_151 (by decide) (fun c_151 => absurd c_151 (by decide)) (fun c_151 => ?_)
  refine lv_iload hx hb dX11_others_154 (lv_at hl 0 rfl) ?_
  refine lv_bipush (v := 10) hx hb dX11_others_156 (by decide) ?_
  refine lv_icmp_ne (tgt := 185) hx hb dX11_others_158 (by decide) (fun c_158 => ?_) (fun c_158 => absurd c_158 (by decide))
  have hP9 := hP.sub (ws' := [(h, .inr (10, mdF qa x0 x2 x3 x4 x13 x14 x15 x16 x17 x18 x19 x20 x21 x22 x23 x24 x26 x27 x28))]) [0] rfl
  have hD9 := hD.sub (ws' := [(h, .inr (10, mdF qa x0 x2 x3 x4 x13 x14 x15 x16 x17 x18 x19 x20 x21 x22 x23 x24 x26 x27 x28))]) [0] (by decide) rfl
  have hK9 := hK.sub (tys' := []) [] rfl
  exact W.vret hx hb hr (fun t ht hW => ⟨⟨([(h, .inr (10, mdF qa x0 x2 x3 x4 x13 x14 x15 x16 x17 x18 x19 x20 x21 x22 x23 x24 x26 x27 x28))], []), rfl, rfl, by rw [ht]; exact hP9, va_K.moved hW.alike hK9, hD9⟩, hS.F ht⟩) hS.2.2 dX11_others_185

set_option maxHeartbeats 400000 in
set_option maxRecDepth 100000 in
theorem m_reckons0 (l : Launch) (dC : Nat → ClassId) (dI : Nat → Nat → Nat) (sz : Nat) (h : Nat) (qa : Nat → Nat) (x0 x2 x3 x4 x13 x14 x15 x16 x17 x18 x19 x20 x21 x22 x23 x24 x26 x27 x28 : Int32) (cI : ClassId) (cv : Nat) (hcv : cv < 4) : Met l yX11_reckons (wsG (.code yX11_reckons cX11_reckons 7 none)) ({ frames := 0, cells := 0, slots := 0, locals := 0 }) (va_Pc [.ref h, .int (nI cv), .int 0] (gP (dC, dI) [(cI, .int)] [(h, .inr (10, mdF qa x0 x2 x3 x4 x13 x14 x15 x16 x17 x18 x19 x20 x21 x22 x23 x24 x26 x27 x28)), (qa 32, .inl (cI, 4, .inl (fun _ => 0))), (qa 34, .inl (cI, 4, .inl (fun _ => 0))), (qa 48, .inl (cI, 4, .inl (fun _ => 0))), (qa 49, .inl (cI, 4, .inl (fun _ => 0)))] sz)) (va_Qv (fun u : va_W × gT => u = ([(h, .inr (10, mdF qa x0 x2 x3 x4 x13 x14 x15 x16 x17 x18 x19 x20 x21 x22 x23 x24 x26 x27 x28)), (qa 32, .inl (cI, 4, .inl (fun _ => 0))), (qa 34, .inl (cI, 4, .inl (fun _ => 0))), (qa 48, .inl (cI, 4, .inl (fun _ => 0))), (qa 49, .inl (cI, 4, .inl (fun _ => 0)))], [])) (gB (dC, dI) (va_A [(h, .inr (10, mdF qa x0 x2 x3 x4 x13 x14 x15 x16 x17 x18 x19 x20 x21 x22 x23 x24 x26 x27 x28)), (qa 32, .inl (cI, 4, .inl (fun _ => 0))), (qa 34, .inl (cI, 4, .inl (fun _ => 0))), (qa 48, .inl (cI, 4, .inl (fun _ => 0))), (qa 49, .inl (cI, 4, .inl (fun _ => 0)))] sz)) (va_A [(h, .inr (10, mdF qa x0 x2 x3 x4 x13 x14 x15 x16 x17 x18 x19 x20 x21 x22 x23 x24 x26 x27 x28)), (qa 32, .inl (cI, 4, .inl (fun _ => 0))), (qa 34, .inl (cI, 4, .inl (fun _ => 0))), (qa 48, .inl (cI, 4, .inl (fun _ => 0))), (qa 49, .inl (cI, 4, .inl (fun _ => 0)))] sz)) 0 0 (va_A [(h, .inr (10, mdF qa x0 x2 x3 x4 x13 x14 x15 x16 x17 x18 x19 x20 x21 x22 x23 x24 x26 x27 x28)), (qa 32, .inl (cI, 4, .inl (fun _ => 0))), (qa 34, .inl (cI, 4, .inl (fun _ => 0))), (qa 48, .inl (cI, 4, .inl (fun _ => 0))), (qa 49, .inl (cI, 4, .inl (fun _ => 0)))] sz) := by
  refine Met.ofW (cc := cX11_reckons) (maxL := 7) (ret := none) (by decide) rfl ?_
  intro p e s m args below meth c s₁ B hml hv
  obtain ⟨rfl, hsz, hP, hK, hD0, hN, hZ⟩ := hv
  have hx := B.exec
  have hb := B.bytes
  have hr := B.returns
  have hts := atoms_spec (ws := (wsG (.code yX11_reckons cX11_reckons 7 none))) B.pre
  have hown : s.vm.findClass RX11 = some m.cls := findClass_of_methodNamed B.named
  have hlocks := B.notSynchronized
  subst hsz
  have hD := hD0.self (sz := s.heap.size)
  generalize hAe : va_A [(h, .inr (10, mdF qa x0 x2 x3 x4 x13 x14 x15 x16 x17 x18 x19 x20 x21 x22 x23 x24 x26 x27 x28)), (qa 32, .inl (cI, 4, .inl (fun _ => 0))), (qa 34, .inl (cI, 4, .inl (fun _ => 0))), (qa 48, .inl (cI, 4, .inl (fun _ => 0))), (qa 49, .inl (cI, 4, .inl (fun _ => 0)))] s.heap.size = A at hD hZ ⊢
  have hA : ∀ q : Nat, s.heap.size ≤ q → A q := fun q h => by rw [← hAe]; exact Or.inr h
  have hl := lv_entry ([.ref h, .int (nI cv), .int 0]) (n := 7) (Nat.le_of_ble_eq_true rfl)
  rw [lg_entry_eq]
  generalize (lg_sl ([.ref h, .int (nI cv), .int 0]) ++ List.replicate (7 - (lg_sl ([.ref h, .int (nI cv), .int 0])).length) Slot.unset).toArray = ls at hl ⊢
  have hl : lv_has ls 7 [(0, .ref h), (1, .int (nI cv)), (2, .int 0)] := hl
  refine g_start (A := A) hP (fun H locs hP hS => ?_)
  refine lv_aload_n hx hb dX11_reckons_0 rfl (lv_at hl 0 rfl) ?_
  refine va_get (D := (dC, dI)) (ci := 10) (v := .ref (qa 48)) (C := RX11) (T := TX11) (N := 53) hx hb hts iwX11 hown hK hP 0 rfl rfl 48 (by decide) (hts (.fieldLink RX11 107 "ModulePlayerModel" "soundPeriod" "[I") (List.mem_cons_of_mem _ kw_204)) (fun _ h9 => h9) rfl dX11_reckons_1 ?_
  refine lv_iload_n hx hb dX11_reckons_4 rfl (lv_at hl 1 rfl) ?_
  refine lv_aload_n hx hb dX11_reckons_5 rfl (lv_at hl 0 rfl) ?_
  refine va_get (D := (dC, dI)) (ci := 10) (v := .ref (qa 34)) (C := RX11) (T := TX11) (N := 53) hx hb hts iwX11 hown hK hP 0 rfl rfl 34 (by decide) (hts (.fieldLink RX11 65 "ModulePlayerModel" "period" "[I") (List.mem_cons_of_mem _ kw_190)) (fun _ h9 => h9) rfl dX11_reckons_6 ?_
  refine lv_iload_n hx hb dX11_reckons_9 rfl (lv_at hl 1 rfl) ?_
  refine g_iald hx hb hK hP 2 0 rfl rfl cv (nI_clamp (Nat.lt_trans (show cv < 4 from hcv) (by decide))) (vp_in_nI (hcv) (by decide)) dX11_reckons_10 ?_
  refine g_iast hx hb hK hP hD hS 3 0 rfl rfl cv (nI_clamp (Nat.lt_trans (show cv < 4 from hcv) (by decide))) (vp_in_nI (hcv) (by decide)) dX11_reckons_11 (fun H locs hP hD hS => ?_)
  have hP : va_P (dC, dI) vwCl [(h, .inr (10, mdF qa x0 x2 x3 x4 x13 x14 x15 x16 x17 x18 x19 x20 x21 x22 x23 x24 x26 x27 x28)), (qa 32, .inl (cI, 4, .inl (fun _ => 0))), (qa 34, .inl (cI, 4, .inl (fun _ => 0))), (qa 48, .inl (cI, 4, .inl (upd (fun _ => 0) cv 0))), (qa 49, .inl (cI, 4, .inl (fun _ => 0)))] H := hP
  have hD : va_D A [(h, .inr (10, mdF qa x0 x2 x3 x4 x13 x14 x15 x16 x17 x18 x19 x20 x21 x22 x23 x24 x26 x27 x28)), (qa 32, .inl (cI, 4, .inl (fun _ => 0))), (qa 34, .inl (cI, 4, .inl (fun _ => 0))), (qa 48, .inl (cI, 4, .inl (upd (fun _ => 0) cv 0))), (qa 49, .inl (cI, 4, .inl (fun _ => 0)))] := hD
  have hfe_11 : upd (fun _ => 0) cv 0 = fun _ => 0 := upd_z cv
  rw [hfe_11] at hP hD
  refine lv_aload_n hx hb dX11_reckons_12 rfl (lv_at hl 0 rfl) ?_
  refine va_get (D := (dC, dI)) (ci := 10) (v := .ref (qa 49)) (C := RX11) (T := TX11) (N := 53) hx hb hts iwX11 hown hK hP 0 rfl rfl 49 (by decide) (hts (.fieldLink RX11 110 "ModulePlayerModel" "soundVolume" "[I") (List.mem_cons_of_mem _ kw_205)) (fun _ h9 => h9) rfl dX11_reckons_13 ?_
  refine lv_iload_n hx hb dX11_reckons_16 rfl (lv_at hl 1 rfl) ?_
  refine lv_aload_n hx hb dX11_reckons_17 rfl (lv_at hl 0 rfl) ?_
  refine va_get (D := (dC, dI)) (ci := 10) (v := .ref (qa 32)) (C := RX11) (T := TX11) (N := 53) hx hb hts iwX11 hown hK hP 0 rfl rfl 32 (by decide) (hts (.fieldLink RX11 59 "ModulePlayerModel" "volume" "[I") (List.mem_cons_of_mem _ kw_188)) (fun _ h9 => h9) rfl dX11_reckons_18 ?_
  refine lv_iload_n hx hb dX11_reckons_21 rfl (lv_at hl 1 rfl) ?_
  refine g_iald hx hb hK hP 1 0 rfl rfl cv (nI_clamp (Nat.lt_trans (show cv < 4 from hcv) (by decide))) (vp_in_nI (hcv) (by decide)) dX11_reckons_22 ?_
  refine g_iast hx hb hK hP hD hS 4 0 rfl rfl cv (nI_clamp (Nat.lt_trans (show cv < 4 from hcv) (by decide))) (vp_in_nI (hcv) (by decide)) dX11_reckons_23 (fun H locs hP hD hS => ?_)
  have hP : va_P (dC, dI) vwCl [(h, .inr (10, mdF qa x0 x2 x3 x4 x13 x14 x15 x16 x17 x18 x19 x20 x21 x22 x23 x24 x26 x27 x28)), (qa 32, .inl (cI, 4, .inl (fun _ => 0))), (qa 34, .inl (cI, 4, .inl (fun _ => 0))), (qa 48, .inl (cI, 4, .inl (fun _ => 0))), (qa 49, .inl (cI, 4, .inl (upd (fun _ => 0) cv 0)))] H := hP
  have hD : va_D A [(h, .inr (10, mdF qa x0 x2 x3 x4 x13 x14 x15 x16 x17 x18 x19 x20 x21 x22 x23 x24 x26 x27 x28)), (qa 32, .inl (cI, 4, .inl (fun _ => 0))), (qa 34, .inl (cI, 4, .inl (fun _ => 0))), (qa 48, .inl (cI, 4, .inl (fun _ => 0))), (qa 49, .inl (cI, 4, .inl (upd (fun _ => 0) cv 0)))] := hD
  have hfe_23 : upd (fun _ => 0) cv 0 = fun _ => 0 := upd_z cv
  rw [hfe_23] at hP hD
  refine lv_aload_n hx hb dX11_reckons_24 rfl (lv_at hl 0 rfl) ?_
  refine va_get (D := (dC, dI)) (ci := 10) (v := .int x19) (C := RX11) (T := TX11) (N := 53) hx hb hts iwX11 hown hK hP 0 rfl rfl 19 (by decide) (hts (.fieldLink RX11 209 "ModulePlayerModel" "tick" "I") (List.mem_cons_of_mem _ kw_222)) (fun _ h9 => h9) rfl dX11_reckons_25 ?_
  refine lv_if_eq (tgt := 40) hx hb dX11_reckons_28 (by decide) (fun c_28 => ?_) (fun c_28 => ?_)
  · have hP9 := hP.sub (ws' := [(h, .inr (10, mdF qa x0 x2 x3 x4 x13 x14 x15 x16 x17 x18 x19 x20 x21 x22 x23 x24 x26 x27 x28)), (qa 32, .inl (cI, 4, .inl (fun _ => 0))), (qa 34, .inl (cI, 4, .inl (fun _ => 0))), (qa 48, .inl (cI, 4, .inl (fun _ => 0))), (qa 49, .inl (cI, 4, .inl (fun _ => 0)))]) [0, 1, 2, 3, 4] rfl
    have hD9 := hD.sub (ws' := [(h, .inr (10, mdF qa x0 x2 x3 x4 x13 x14 x15 x16 x17 x18 x19 x20 x21 x22 x23 x24 x26 x27 x28)), (qa 32, .inl (cI, 4, .inl (fun _ => 0))), (qa 34, .inl (cI, 4, .inl (fun _ => 0))), (qa 48, .inl (cI, 4, .inl (fun _ => 0))), (qa 49, .inl (cI, 4, .inl (fun _ => 0)))]) [0, 1, 2, 3, 4] (by decide) rfl
    have hK9 := hK.sub (tys' := []) [] rfl
    exact W.vret hx hb hr (fun t ht hW => ⟨⟨([(h, .inr (10, mdF qa x0 x2 x3 x4 x13 x14 x15 x16 x17 x18 x19 x20 x21 x22 x23 x24 x26 x27 x28)), (qa 32, .inl (cI, 4, .inl (fun _ => 0))), (qa 34, .inl (cI, 4, .inl (fun _ => 0))), (qa 48, .inl (cI, 4, .inl (fun _ => 0))), (qa 49, .inl (cI, 4, .inl (fun _ => 0)))], []), rfl, rfl, by rw [ht]; exact hP9, va_K.moved hW.alike hK9, hD9⟩, hS.F ht⟩) hS.2.2 dX11_reckons_40
  refine lv_aload_n hx hb dX11_reckons_31 rfl (lv_at hl 0 rfl) ?_
  refine va_get (D := (dC, dI)) (ci := 10) (v := .ref (qa 34)) (C := RX11) (T := TX11) (N := 53) hx hb hts iwX11 hown hK hP 0 rfl rfl 34 (by decide) (hts (.fieldLink RX11 65 "ModulePlayerModel" "period" "[I") (List.mem_cons_of_mem _ kw_190)) (fun _ h9 => h9) rfl dX11_reckons_32 ?_
  refine lv_iload_n hx hb dX11_reckons_35 rfl (lv_at hl 1 rfl) ?_
  refine g_iald hx hb hK hP 2 0 rfl rfl cv (nI_clamp (Nat.lt_trans (show cv < 4 from hcv) (by decide))) (vp_in_nI (hcv) (by decide)) dX11_reckons_36 ?_
  refine lv_if_ne (tgt := 41) hx hb dX11_reckons_37 (by decide) (fun c_37 => absurd c_37 (by decide)) (fun c_37 => ?_)
  have hP9 := hP.sub (ws' := [(h, .inr (10, mdF qa x0 x2 x3 x4 x13 x14 x15 x16 x17 x18 x19 x20 x21 x22 x23 x24 x26 x27 x28)), (qa 32, .inl (cI, 4, .inl (fun _ => 0))), (qa 34, .inl (cI, 4, .inl (fun _ => 0))), (qa 48, .inl (cI, 4, .inl (fun _ => 0))), (qa 49, .inl (cI, 4, .inl (fun _ => 0)))]) [0, 1, 2, 3, 4] rfl
  have hD9 := hD.sub (ws' := [(h, .inr (10, mdF qa x0 x2 x3 x4 x13 x14 x15 x16 x17 x18 x19 x20 x21 x22 x23 x24 x26 x27 x28)), (qa 32, .inl (cI, 4, .inl (fun _ => 0))), (qa 34, .inl (cI, 4, .inl (fun _ => 0))), (qa 48, .inl (cI, 4, .inl (fun _ => 0))), (qa 49, .inl (cI, 4, .inl (fun _ => 0)))]) [0, 1, 2, 3, 4] (by decide) rfl
  have hK9 := hK.sub (tys' := []) [] rfl
  exact W.vret hx hb hr (fun t ht hW => ⟨⟨([(h, .inr (10, mdF qa x0 x2 x3 x4 x13 x14 x15 x16 x17 x18 x19 x20 x21 x22 x23 x24 x26 x27 x28)), (qa 32, .inl (cI, 4, .inl (fun _ => 0))), (qa 34, .inl (cI, 4, .inl (fun _ => 0))), (qa 48, .inl (cI, 4, .inl (fun _ => 0))), (qa 49, .inl (cI, 4, .inl (fun _ => 0)))], []), rfl, rfl, by rw [ht]; exact hP9, va_K.moved hW.alike hK9, hD9⟩, hS.F ht⟩) hS.2.2 dX11_reckons_40

set_option maxHeartbeats 400000 in
set_option maxRecDepth 100000 in
theorem m_acts0 (l : Launch) (dC : Nat → ClassId) (dI : Nat → Nat → Nat) (sz : Nat) (h : Nat) (qa : Nat → Nat) (x0 x2 x3 x4 x13 x14 x15 x16 x17 x18 x19 x20 x21 x22 x23 x24 x26 x27 x28 : Int32) (cI : ClassId) (cv : Nat) (hcv : cv < 4) : Met l yX11_acts (wsG (.code yX11_acts cX11_acts 4 none)) ({ frames := 2, cells := 0, slots := 0, locals := 44 }) (va_Pc [.ref h, .int (nI cv)] (gP (dC, dI) [(cI, .int)] [(h, .inr (10, mdF qa x0 x2 x3 x4 x13 x14 x15 x16 x17 x18 x19 x20 x21 x22 x23 x24 x26 x27 x28)), (qa 32, .inl (cI, 4, .inl (fun _ => 0))), (qa 34, .inl (cI, 4, .inl (fun _ => 0))), (qa 47, .inl (cI, 4, .inl (fun _ => 0))), (qa 48, .inl (cI, 4, .inl (fun _ => 0))), (qa 49, .inl (cI, 4, .inl (fun _ => 0)))] sz)) (va_Qv (fun u : va_W × gT => u = ([(h, .inr (10, mdF qa x0 x2 x3 x4 x13 x14 x15 x16 x17 x18 x19 x20 x21 x22 x23 x24 x26 x27 x28)), (qa 32, .inl (cI, 4, .inl (fun _ => 0))), (qa 34, .inl (cI, 4, .inl (fun _ => 0))), (qa 47, .inl (cI, 4, .inl (fun _ => 0))), (qa 48, .inl (cI, 4, .inl (fun _ => 0))), (qa 49, .inl (cI, 4, .inl (fun _ => 0)))], [])) (gB (dC, dI) (va_A [(h, .inr (10, mdF qa x0 x2 x3 x4 x13 x14 x15 x16 x17 x18 x19 x20 x21 x22 x23 x24 x26 x27 x28)), (qa 32, .inl (cI, 4, .inl (fun _ => 0))), (qa 34, .inl (cI, 4, .inl (fun _ => 0))), (qa 47, .inl (cI, 4, .inl (fun _ => 0))), (qa 48, .inl (cI, 4, .inl (fun _ => 0))), (qa 49, .inl (cI, 4, .inl (fun _ => 0)))] sz)) (va_A [(h, .inr (10, mdF qa x0 x2 x3 x4 x13 x14 x15 x16 x17 x18 x19 x20 x21 x22 x23 x24 x26 x27 x28)), (qa 32, .inl (cI, 4, .inl (fun _ => 0))), (qa 34, .inl (cI, 4, .inl (fun _ => 0))), (qa 47, .inl (cI, 4, .inl (fun _ => 0))), (qa 48, .inl (cI, 4, .inl (fun _ => 0))), (qa 49, .inl (cI, 4, .inl (fun _ => 0)))] sz)) 0 0 (va_A [(h, .inr (10, mdF qa x0 x2 x3 x4 x13 x14 x15 x16 x17 x18 x19 x20 x21 x22 x23 x24 x26 x27 x28)), (qa 32, .inl (cI, 4, .inl (fun _ => 0))), (qa 34, .inl (cI, 4, .inl (fun _ => 0))), (qa 47, .inl (cI, 4, .inl (fun _ => 0))), (qa 48, .inl (cI, 4, .inl (fun _ => 0))), (qa 49, .inl (cI, 4, .inl (fun _ => 0)))] sz) := by
  refine Met.ofW (cc := cX11_acts) (maxL := 4) (ret := none) (by decide) rfl ?_
  intro p e s m args below meth c s₁ B hml hv
  obtain ⟨rfl, hsz, hP, hK, hD0, hN, hZ⟩ := hv
  have hx := B.exec
  have hb := B.bytes
  have hr := B.returns
  have hts := atoms_spec (ws := (wsG (.code yX11_acts cX11_acts 4 none))) B.pre
  have hown : s.vm.findClass RX11 = some m.cls := findClass_of_methodNamed B.named
  have hlocks := B.notSynchronized
  subst hsz
  have hD := hD0.self (sz := s.heap.size)
  generalize hAe : va_A [(h, .inr (10, mdF qa x0 x2 x3 x4 x13 x14 x15 x16 x17 x18 x19 x20 x21 x22 x23 x24 x26 x27 x28)), (qa 32, .inl (cI, 4, .inl (fun _ => 0))), (qa 34, .inl (cI, 4, .inl (fun _ => 0))), (qa 47, .inl (cI, 4, .inl (fun _ => 0))), (qa 48, .inl (cI, 4, .inl (fun _ => 0))), (qa 49, .inl (cI, 4, .inl (fun _ => 0)))] s.heap.size = A at hD hZ ⊢
  have hA : ∀ q : Nat, s.heap.size ≤ q → A q := fun q h => by rw [← hAe]; exact Or.inr h
  have hl := lv_entry ([.ref h, .int (nI cv)]) (n := 4) (Nat.le_of_ble_eq_true rfl)
  rw [lg_entry_eq]
  generalize (lg_sl ([.ref h, .int (nI cv)]) ++ List.replicate (4 - (lg_sl ([.ref h, .int (nI cv)])).length) Slot.unset).toArray = ls at hl ⊢
  have hl : lv_has ls 4 [(0, .ref h), (1, .int (nI cv))] := hl
  refine g_start (A := A) hP (fun H locs hP hS => ?_)
  refine lv_aload_n hx hb dX11_acts_0 rfl (lv_at hl 0 rfl) ?_
  refine va_get (D := (dC, dI)) (ci := 10) (v := .ref (qa 47)) (C := RX11) (T := TX11) (N := 53) hx hb hts iwX11 hown hK hP 0 rfl rfl 47 (by decide) (hts (.fieldLink RX11 104 "ModulePlayerModel" "cell" "[I") (List.mem_cons_of_mem _ kw_203)) (fun _ h9 => h9) rfl dX11_acts_1 ?_
  refine lv_iload_n hx hb dX11_acts_4 rfl (lv_at hl 1 rfl) ?_
  refine g_iald hx hb hK hP 3 0 rfl rfl cv (nI_clamp (Nat.lt_trans (show cv < 4 from hcv) (by decide))) (vp_in_nI (hcv) (by decide)) dX11_acts_5 ?_
  refine lv_istore_n (lv' := [(2, .int 0), (0, .ref h), (1, .int (nI cv))]) hx hb dX11_acts_6 rfl hl (by decide) rfl (fun ls hl => ?_)
  refine lv_iload_n hx hb dX11_acts_7 rfl (lv_at hl 0 rfl) ?_
  refine lv_bipush (v := 13) hx hb dX11_acts_8 (by decide) ?_
  refine g_calli (wr := [(h, .inr (10, mdF qa x0 x2 x3 x4 x13 x14 x15 x16 x17 x18 x19 x20 x21 x22 x23 x24 x26 x27 x28)), (qa 32, .inl (cI, 4, .inl (fun _ => 0))), (qa 34, .inl (cI, 4, .inl (fun _ => 0))), (qa 47, .inl (cI, 4, .inl (fun _ => 0))), (qa 48, .inl (cI, 4, .inl (fun _ => 0))), (qa 49, .inl (cI, 4, .inl (fun _ => 0)))]) (va_runS (As := [.int 0, .int 13]) (rest := []) ⟨hx, hb, hml, hown, hts⟩ (m_isE0 l dC dI H.size 13 ) (va_cwS 2 hts (gG_S kw_856 kw_857 kw_5 kw_858) rfl rfl rfl (by decide +kernel) ⟨Nat.le_of_ble_eq_true rfl, Nat.le_of_ble_eq_true rfl⟩) (g_preS hP hD hK hS hA hN hZ [] (by decide) rfl [] rfl) rfl rfl hl.1 rfl (lv_room (Nat.le_of_ble_eq_true rfl)) dX11_acts_10 ⟨Nat.le_of_ble_eq_true rfl, Nat.le_of_ble_eq_true rfl⟩) hP hD hK hS hA [] [0, 1, 2, 3, 4, 5] rfl rfl (by decide) (by decide) (fun r_10 w ty1 H locs hw_10 hP hD _ hS => ?_)
  rcases hw_10 with ⟨hu, hr_10⟩
  cases hu
  have hP : va_P (dC, dI) vwCl [(h, .inr (10, mdF qa x0 x2 x3 x4 x13 x14 x15 x16 x17 x18 x19 x20 x21 x22 x23 x24 x26 x27 x28)), (qa 32, .inl (cI, 4, .inl (fun _ => 0))), (qa 34, .inl (cI, 4, .inl (fun _ => 0))), (qa 47, .inl (cI, 4, .inl (fun _ => 0))), (qa 48, .inl (cI, 4, .inl (fun _ => 0))), (qa 49, .inl (cI, 4, .inl (fun _ => 0)))] H := hP
  have hD : va_D A [(h, .inr (10, mdF qa x0 x2 x3 x4 x13 x14 x15 x16 x17 x18 x19 x20 x21 x22 x23 x24 x26 x27 x28)), (qa 32, .inl (cI, 4, .inl (fun _ => 0))), (qa 34, .inl (cI, 4, .inl (fun _ => 0))), (qa 47, .inl (cI, 4, .inl (fun _ => 0))), (qa 48, .inl (cI, 4, .inl (fun _ => 0))), (qa 49, .inl (cI, 4, .inl (fun _ => 0)))] := hD
  refine g_topi (y := 0) hr_10 ?_
  refine lv_if_eq (tgt := 27) hx hb dX11_acts_13 (by decide) (fun c_13 => ?_) (fun c_13 => absurd c_13 (by decide))
  refine lv_iconst (v := 0) hx hb dX11_acts_27 (by decide) ?_
  refine lv_istore_n (lv' := [(3, .int 0), (2, .int 0), (0, .ref h), (1, .int (nI cv))]) hx hb dX11_acts_28 rfl hl (by decide) rfl (fun ls hl => ?_)
  refine lv_aload_n hx hb dX11_acts_29 rfl (lv_at hl 2 rfl) ?_
  refine va_get (D := (dC, dI)) (ci := 10) (v := .int x19) (C := RX11) (T := TX11) (N := 53) hx hb hts iwX11 hown hK hP 0 rfl rfl 19 (by decide) (hts (.fieldLink RX11 209 "ModulePlayerModel" "tick" "I") (List.mem_cons_of_mem _ kw_222)) (fun _ h9 => h9) rfl dX11_acts_30 ?_
  refine lv_iload_n hx hb dX11_acts_33 rfl (lv_at hl 0 rfl) ?_
  refine lv_if_eq (tgt := 44) hx hb dX11_acts_34 (by decide) (fun c_34 => ?_) (fun c_34 => absurd c_34 (by decide))
  refine lv_iconst (v := 0) hx hb dX11_acts_44 (by decide) ?_
  refine lv_icmp_ne (tgt := 53) hx hb dX11_acts_45 (by decide) (fun c_45 => ?_) (fun c_45 => ?_)
  · refine lv_aload_n hx hb dX11_acts_53 rfl (lv_at hl 2 rfl) ?_
    refine va_get (D := (dC, dI)) (ci := 10) (v := .int x19) (C := RX11) (T := TX11) (N := 53) hx hb hts iwX11 hown hK hP 0 rfl rfl 19 (by decide) (hts (.fieldLink RX11 209 "ModulePlayerModel" "tick" "I") (List.mem_cons_of_mem _ kw_222)) (fun _ h9 => h9) rfl dX11_acts_54 ?_
    refine lv_if_ne (tgt := 69) hx hb dX11_acts_57 (by decide) (fun c_57 => ?_) (fun c_57 => ?_)
    · refine lv_aload_n hx hb dX11_acts_69 rfl (lv_at hl 2 rfl) ?_
      refine lv_iload_n hx hb dX11_acts_70 rfl (lv_at hl 3 rfl) ?_
      refine lv_iload_n hx hb dX11_acts_71 rfl (lv_at hl 1 rfl) ?_
      refine g_callv (wr := [(qa 32, .inl (cI, 4, .inl (fun _ => 0))), (qa 34, .inl (cI, 4, .inl (fun _ => 0))), (qa 47, .inl (cI, 4, .inl (fun _ => 0))), (qa 48, .inl (cI, 4, .inl (fun _ => 0))), (qa 49, .inl (cI, 4, .inl (fun _ => 0)))]) (va_runV (As := [.int (nI cv), .int 0]) (rest := []) ⟨hx, hb, hml, hown, hts⟩ (m_others0 l dC dI H.size h qa x0 x2 x3 x4 x13 x14 x15 x16 x17 x18 x19 x20 x21 x22 x23 x24 x26 x27 x28 cv ) (cwV 2 hts (gG_V kw_903 kw_904 kw_905 kw_5 kw_906) rfl rfl rfl (by decide +kernel) ⟨Nat.le_of_ble_eq_true rfl, Nat.le_of_ble_eq_true rfl⟩) (g_preV (C := RX11) (T := TX11) (N := 53) hP hD hK hS hA hN hZ (q0 := 0) rfl rfl [0] (by decide) rfl [] rfl) rfl rfl hl.1 rfl (lv_room (Nat.le_of_ble_eq_true rfl)) dX11_acts_72 ⟨Nat.le_of_ble_eq_true rfl, Nat.le_of_ble_eq_true rfl⟩) hP hD hK hS hA [0] [1, 2, 3, 4, 5] rfl rfl (by decide) (by decide) (fun w ty1 H locs hw_72 hP hD _ hS => ?_)
      have hu := hw_72
      cases hu
      have hP : va_P (dC, dI) vwCl [(qa 32, .inl (cI, 4, .inl (fun _ => 0))), (qa 34, .inl (cI, 4, .inl (fun _ => 0))), (qa 47, .inl (cI, 4, .inl (fun _ => 0))), (qa 48, .inl (cI, 4, .inl (fun _ => 0))), (qa 49, .inl (cI, 4, .inl (fun _ => 0))), (h, .inr (10, mdF qa x0 x2 x3 x4 x13 x14 x15 x16 x17 x18 x19 x20 x21 x22 x23 x24 x26 x27 x28))] H := hP
      have hD : va_D A [(qa 32, .inl (cI, 4, .inl (fun _ => 0))), (qa 34, .inl (cI, 4, .inl (fun _ => 0))), (qa 47, .inl (cI, 4, .inl (fun _ => 0))), (qa 48, .inl (cI, 4, .inl (fun _ => 0))), (qa 49, .inl (cI, 4, .inl (fun _ => 0))), (h, .inr (10, mdF qa x0 x2 x3 x4 x13 x14 x15 x16 x17 x18 x19 x20 x21 x22 x23 x24 x26 x27 x28))] := hD
      refine lv_iload_n hx hb dX11_acts_75 rfl (lv_at hl 1 rfl) ?_
      refine lv_bipush (v := 9) hx hb dX11_acts_76 (by decide) ?_
      refine g_calli (wr := [(qa 32, .inl (cI, 4, .inl (fun _ => 0))), (qa 34, .inl (cI, 4, .inl (fun _ => 0))), (qa 47, .inl (cI, 4, .inl (fun _ => 0))), (qa 48, .inl (cI, 4, .inl (fun _ => 0))), (qa 49, .inl (cI, 4, .inl (fun _ => 0))), (h, .inr (10, mdF qa x0 x2 x3 x4 x13 x14 x15 x16 x17 x18 x19 x20 x21 x22 x23 x24 x26 x27 x28))]) (va_runS (As := [.int 0, .int 9]) (rest := []) ⟨hx, hb, hml, hown, hts⟩ (m_isE0 l dC dI H.size 9 ) (va_cwS 2 hts (gG_S kw_856 kw_857 kw_5 kw_858) rfl rfl rfl (by decide +kernel) ⟨Nat.le_of_ble_eq_true rfl, Nat.le_of_ble_eq_true rfl⟩) (g_preS hP hD hK hS hA hN hZ [] (by decide) rfl [] rfl) rfl rfl hl.1 rfl (lv_room (Nat.le_of_ble_eq_true rfl)) dX11_acts_78 ⟨Nat.le_of_ble_eq_true rfl, Nat.le_of_ble_eq_true rfl⟩) hP hD hK hS hA [] [0, 1, 2, 3, 4, 5] rfl rfl (by decide) (by decide) (fun r_78 w ty1 H locs hw_78 hP hD _ hS => ?_)
      rcases hw_78 with ⟨hu, hr_78⟩
      cases hu
      have hP : va_P (dC, dI) vwCl [(qa 32, .inl (cI, 4, .inl (fun _ => 0))), (qa 34, .inl (cI, 4, .inl (fun _ => 0))), (qa 47, .inl (cI, 4, .inl (fun _ => 0))), (qa 48, .inl (cI, 4, .inl (fun _ => 0))), (qa 49, .inl (cI, 4, .inl (fun _ => 0))), (h, .inr (10, mdF qa x0 x2 x3 x4 x13 x14 x15 x16 x17 x18 x19 x20 x21 x22 x23 x24 x26 x27 x28))] H := hP
      have hD : va_D A [(qa 32, .inl (cI, 4, .inl (fun _ => 0))), (qa 34, .inl (cI, 4, .inl (fun _ => 0))), (qa 47, .inl (cI, 4, .inl (fun _ => 0))), (qa 48, .inl (cI, 4, .inl (fun _ => 0))), (qa 49, .inl (cI, 4, .inl (fun _ => 0))), (h, .inr (10, mdF qa x0 x2 x3 x4 x13 x14 x15 x16 x17 x18 x19 x20 x21 x22 x23 x24 x26 x27 x28))] := hD
      refine g_topi (y := 0) hr_78 ?_
      refine lv_if_eq (tgt := 122) hx hb dX11_acts_81 (by decide) (fun c_81 => ?_) (fun c_81 => absurd c_81 (by decide))
      refine lv_iload_n hx hb dX11_acts_122 rfl (lv_at hl 1 rfl) ?_
      refine lv_bipush (v := 12) hx hb dX11_acts_123 (by decide) ?_
      refine g_calli (wr := [(qa 32, .inl (cI, 4, .inl (fun _ => 0))), (qa 34, .inl (cI, 4, .inl (fun _ => 0))), (qa 47, .inl (cI, 4, .inl (fun _ => 0))), (qa 48, .inl (cI, 4, .inl (fun _ => 0))), (qa 49, .inl (cI, 4, .inl (fun _ => 0))), (h, .inr (10, mdF qa x0 x2 x3 x4 x13 x14 x15 x16 x17 x18 x19 x20 x21 x22 x23 x24 x26 x27 x28))]) (va_runS (As := [.int 0, .int 12]) (rest := []) ⟨hx, hb, hml, hown, hts⟩ (m_isE0 l dC dI H.size 12 ) (va_cwS 2 hts (gG_S kw_856 kw_857 kw_5 kw_858) rfl rfl rfl (by decide +kernel) ⟨Nat.le_of_ble_eq_true rfl, Nat.le_of_ble_eq_true rfl⟩) (g_preS hP hD hK hS hA hN hZ [] (by decide) rfl [] rfl) rfl rfl hl.1 rfl (lv_room (Nat.le_of_ble_eq_true rfl)) dX11_acts_125 ⟨Nat.le_of_ble_eq_true rfl, Nat.le_of_ble_eq_true rfl⟩) hP hD hK hS hA [] [0, 1, 2, 3, 4, 5] rfl rfl (by decide) (by decide) (fun r_125 w ty1 H locs hw_125 hP hD _ hS => ?_)
      rcases hw_125 with ⟨hu, hr_125⟩
      cases hu
      have hP : va_P (dC, dI) vwCl [(qa 32, .inl (cI, 4, .inl (fun _ => 0))), (qa 34, .inl (cI, 4, .inl (fun _ => 0))), (qa 47, .inl (cI, 4, .inl (fun _ => 0))), (qa 48, .inl (cI, 4, .inl (fun _ => 0))), (qa 49, .inl (cI, 4, .inl (fun _ => 0))), (h, .inr (10, mdF qa x0 x2 x3 x4 x13 x14 x15 x16 x17 x18 x19 x20 x21 x22 x23 x24 x26 x27 x28))] H := hP
      have hD : va_D A [(qa 32, .inl (cI, 4, .inl (fun _ => 0))), (qa 34, .inl (cI, 4, .inl (fun _ => 0))), (qa 47, .inl (cI, 4, .inl (fun _ => 0))), (qa 48, .inl (cI, 4, .inl (fun _ => 0))), (qa 49, .inl (cI, 4, .inl (fun _ => 0))), (h, .inr (10, mdF qa x0 x2 x3 x4 x13 x14 x15 x16 x17 x18 x19 x20 x21 x22 x23 x24 x26 x27 x28))] := hD
      refine g_topi (y := 0) hr_125 ?_
      refine lv_if_eq (tgt := 149) hx hb dX11_acts_128 (by decide) (fun c_128 => ?_) (fun c_128 => absurd c_128 (by decide))
      refine lv_aload_n hx hb dX11_acts_149 rfl (lv_at hl 2 rfl) ?_
      refine lv_iload_n hx hb dX11_acts_150 rfl (lv_at hl 3 rfl) ?_
      refine lv_iload_n hx hb dX11_acts_151 rfl (lv_at hl 1 rfl) ?_
      refine g_callv (wr := [(qa 47, .inl (cI, 4, .inl (fun _ => 0)))]) (va_runV (As := [.int (nI cv), .int 0]) (rest := []) ⟨hx, hb, hml, hown, hts⟩ (m_reckons0 l dC dI H.size h qa x0 x2 x3 x4 x13 x14 x15 x16 x17 x18 x19 x20 x21 x22 x23 x24 x26 x27 x28 cI cv (hcv)) (cwV 2 hts (gG_V kw_907 kw_908 kw_909 kw_5 kw_910) rfl rfl rfl (by decide +kernel) ⟨Nat.le_of_ble_eq_true rfl, Nat.le_of_ble_eq_true rfl⟩) (g_preV (C := RX11) (T := TX11) (N := 53) hP hD hK hS hA hN hZ (q0 := 5) rfl rfl [5, 0, 1, 3, 4] (by decide) rfl [0] rfl) rfl rfl hl.1 rfl (lv_room (Nat.le_of_ble_eq_true rfl)) dX11_acts_152 ⟨Nat.le_of_ble_eq_true rfl, Nat.le_of_ble_eq_true rfl⟩) hP hD hK hS hA [5, 0, 1, 3, 4] [2] rfl rfl (by decide) (by decide) (fun w ty1 H locs hw_152 hP hD _ hS => ?_)
      have hu := hw_152
      cases hu
      have hP : va_P (dC, dI) vwCl [(qa 47, .inl (cI, 4, .inl (fun _ => 0))), (h, .inr (10, mdF qa x0 x2 x3 x4 x13 x14 x15 x16 x17 x18 x19 x20 x21 x22 x23 x24 x26 x27 x28)), (qa 32, .inl (cI, 4, .inl (fun _ => 0))), (qa 34, .inl (cI, 4, .inl (fun _ => 0))), (qa 48, .inl (cI, 4, .inl (fun _ => 0))), (qa 49, .inl (cI, 4, .inl (fun _ => 0)))] H := hP
      have hD : va_D A [(qa 47, .inl (cI, 4, .inl (fun _ => 0))), (h, .inr (10, mdF qa x0 x2 x3 x4 x13 x14 x15 x16 x17 x18 x19 x20 x21 x22 x23 x24 x26 x27 x28)), (qa 32, .inl (cI, 4, .inl (fun _ => 0))), (qa 34, .inl (cI, 4, .inl (fun _ => 0))), (qa 48, .inl (cI, 4, .inl (fun _ => 0))), (qa 49, .inl (cI, 4, .inl (fun _ => 0)))] := hD
      have hP9 := hP.sub (ws' := [(h, .inr (10, mdF qa x0 x2 x3 x4 x13 x14 x15 x16 x17 x18 x19 x20 x21 x22 x23 x24 x26 x27 x28)), (qa 32, .inl (cI, 4, .inl (fun _ => 0))), (qa 34, .inl (cI, 4, .inl (fun _ => 0))), (qa 47, .inl (cI, 4, .inl (fun _ => 0))), (qa 48, .inl (cI, 4, .inl (fun _ => 0))), (qa 49, .inl (cI, 4, .inl (fun _ => 0)))]) [1, 2, 3, 0, 4, 5] rfl
      have hD9 := hD.sub (ws' := [(h, .inr (10, mdF qa x0 x2 x3 x4 x13 x14 x15 x16 x17 x18 x19 x20 x21 x22 x23 x24 x26 x27 x28)), (qa 32, .inl (cI, 4, .inl (fun _ => 0))), (qa 34, .inl (cI, 4, .inl (fun _ => 0))), (qa 47, .inl (cI, 4, .inl (fun _ => 0))), (qa 48, .inl (cI, 4, .inl (fun _ => 0))), (qa 49, .inl (cI, 4, .inl (fun _ => 0)))]) [1, 2, 3, 0, 4, 5] (by decide) rfl
      have hK9 := hK.sub (tys' := []) [] rfl
      exact W.vret hx hb hr (fun t ht hW => ⟨⟨([(h, .inr (10, mdF qa x0 x2 x3 x4 x13 x14 x15 x16 x17 x18 x19 x20 x21 x22 x23 x24 x26 x27 x28)), (qa 32, .inl (cI, 4, .inl (fun _ => 0))), (qa 34, .inl (cI, 4, .inl (fun _ => 0))), (qa 47, .inl (cI, 4, .inl (fun _ => 0))), (qa 48, .inl (cI, 4, .inl (fun _ => 0))), (qa 49, .inl (cI, 4, .inl (fun _ => 0)))], []), rfl, rfl, by rw [ht]; exact hP9, va_K.moved hW.alike hK9, hD9⟩, hS.F ht⟩) hS.2.2 dX11_acts_155
    refine lv_aload_n hx hb dX11_acts_60 rfl (lv_at hl 2 rfl) ?_
    refine lv_iload_n hx hb dX11_acts_61 rfl (lv_at hl 3 rfl) ?_
    refine lv_iload_n hx hb dX11_acts_62 rfl (lv_at hl 1 rfl) ?_
    refine g_callv (wr := [(qa 32, .inl (cI, 4, .inl (fun _ => 0))), (qa 34, .inl (cI, 4, .inl (fun _ => 0))), (qa 47, .inl (cI, 4, .inl (fun _ => 0))), (qa 48, .inl (cI, 4, .inl (fun _ => 0))), (qa 49, .inl (cI, 4, .inl (fun _ => 0)))]) (va_runV (As := [.int (nI cv), .int 0]) (rest := []) ⟨hx, hb, hml, hown, hts⟩ (m_first0 l dC dI H.size h qa x0 x2 x3 x4 x13 x14 x15 x16 x17 x18 x19 x20 x21 x22 x23 x24 x26 x27 x28 cv ) (cwV 2 hts (gG_V kw_883 kw_884 kw_885 kw_5 kw_886) rfl rfl rfl (by decide +kernel) ⟨Nat.le_of_ble_eq_true rfl, Nat.le_of_ble_eq_true rfl⟩) (g_preV (C := RX11) (T := TX11) (N := 53) hP hD hK hS hA hN hZ (q0 := 0) rfl rfl [0] (by decide) rfl [] rfl) rfl rfl hl.1 rfl (lv_room (Nat.le_of_ble_eq_true rfl)) dX11_acts_63 ⟨Nat.le_of_ble_eq_true rfl, Nat.le_of_ble_eq_true rfl⟩) hP hD hK hS hA [0] [1, 2, 3, 4, 5] rfl rfl (by decide) (by decide) (fun w ty1 H locs hw_63 hP hD _ hS => ?_)
    have hu := hw_63
    cases hu
    have hP : va_P (dC, dI) vwCl [(qa 32, .inl (cI, 4, .inl (fun _ => 0))), (qa 34, .inl (cI, 4, .inl (fun _ => 0))), (qa 47, .inl (cI, 4, .inl (fun _ => 0))), (qa 48, .inl (cI, 4, .inl (fun _ => 0))), (qa 49, .inl (cI, 4, .inl (fun _ => 0))), (h, .inr (10, mdF qa x0 x2 x3 x4 x13 x14 x15 x16 x17 x18 x19 x20 x21 x22 x23 x24 x26 x27 x28))] H := hP
    have hD : va_D A [(qa 32, .inl (cI, 4, .inl (fun _ => 0))), (qa 34, .inl (cI, 4, .inl (fun _ => 0))), (qa 47, .inl (cI, 4, .inl (fun _ => 0))), (qa 48, .inl (cI, 4, .inl (fun _ => 0))), (qa 49, .inl (cI, 4, .inl (fun _ => 0))), (h, .inr (10, mdF qa x0 x2 x3 x4 x13 x14 x15 x16 x17 x18 x19 x20 x21 x22 x23 x24 x26 x27 x28))] := hD
    refine lv_goto (tgt := 75) hx hb dX11_acts_66 (by decide) ?_
    refine lv_iload_n hx hb dX11_acts_75 rfl (lv_at hl 1 rfl) ?_
    refine lv_bipush (v := 9) hx hb dX11_acts_76 (by decide) ?_
    refine g_calli (wr := [(qa 32, .inl (cI, 4, .inl (fun _ => 0))), (qa 34, .inl (cI, 4, .inl (fun _ => 0))), (qa 47, .inl (cI, 4, .inl (fun _ => 0))), (qa 48, .inl (cI, 4, .inl (fun _ => 0))), (qa 49, .inl (cI, 4, .inl (fun _ => 0))), (h, .inr (10, mdF qa x0 x2 x3 x4 x13 x14 x15 x16 x17 x18 x19 x20 x21 x22 x23 x24 x26 x27 x28))]) (va_runS (As := [.int 0, .int 9]) (rest := []) ⟨hx, hb, hml, hown, hts⟩ (m_isE0 l dC dI H.size 9 ) (va_cwS 2 hts (gG_S kw_856 kw_857 kw_5 kw_858) rfl rfl rfl (by decide +kernel) ⟨Nat.le_of_ble_eq_true rfl, Nat.le_of_ble_eq_true rfl⟩) (g_preS hP hD hK hS hA hN hZ [] (by decide) rfl [] rfl) rfl rfl hl.1 rfl (lv_room (Nat.le_of_ble_eq_true rfl)) dX11_acts_78 ⟨Nat.le_of_ble_eq_true rfl, Nat.le_of_ble_eq_true rfl⟩) hP hD hK hS hA [] [0, 1, 2, 3, 4, 5] rfl rfl (by decide) (by decide) (fun r_78 w ty1 H locs hw_78 hP hD _ hS => ?_)
    rcases hw_78 with ⟨hu, hr_78⟩
    cases hu
    have hP : va_P (dC, dI) vwCl [(qa 32, .inl (cI, 4, .inl (fun _ => 0))), (qa 34, .inl (cI, 4, .inl (fun _ => 0))), (qa 47, .inl (cI, 4, .inl (fun _ => 0))), (qa 48, .inl (cI, 4, .inl (fun _ => 0))), (qa 49, .inl (cI, 4, .inl (fun _ => 0))), (h, .inr (10, mdF qa x0 x2 x3 x4 x13 x14 x15 x16 x17 x18 x19 x20 x21 x22 x23 x24 x26 x27 x28))] H := hP
    have hD : va_D A [(qa 32, .inl (cI, 4, .inl (fun _ => 0))), (qa 34, .inl (cI, 4, .inl (fun _ => 0))), (qa 47, .inl (cI, 4, .inl (fun _ => 0))), (qa 48, .inl (cI, 4, .inl (fun _ => 0))), (qa 49, .inl (cI, 4, .inl (fun _ => 0))), (h, .inr (10, mdF qa x0 x2 x3 x4 x13 x14 x15 x16 x17 x18 x19 x20 x21 x22 x23 x24 x26 x27 x28))] := hD
    refine g_topi (y := 0) hr_78 ?_
    refine lv_if_eq (tgt := 122) hx hb dX11_acts_81 (by decide) (fun c_81 => ?_) (fun c_81 => absurd c_81 (by decide))
    refine lv_iload_n hx hb dX11_acts_122 rfl (lv_at hl 1 rfl) ?_
    refine lv_bipush (v := 12) hx hb dX11_acts_123 (by decide) ?_
    refine g_calli (wr := [(qa 32, .inl (cI, 4, .inl (fun _ => 0))), (qa 34, .inl (cI, 4, .inl (fun _ => 0))), (qa 47, .inl (cI, 4, .inl (fun _ => 0))), (qa 48, .inl (cI, 4, .inl (fun _ => 0))), (qa 49, .inl (cI, 4, .inl (fun _ => 0))), (h, .inr (10, mdF qa x0 x2 x3 x4 x13 x14 x15 x16 x17 x18 x19 x20 x21 x22 x23 x24 x26 x27 x28))]) (va_runS (As := [.int 0, .int 12]) (rest := []) ⟨hx, hb, hml, hown, hts⟩ (m_isE0 l dC dI H.size 12 ) (va_cwS 2 hts (gG_S kw_856 kw_857 kw_5 kw_858) rfl rfl rfl (by decide +kernel) ⟨Nat.le_of_ble_eq_true rfl, Nat.le_of_ble_eq_true rfl⟩) (g_preS hP hD hK hS hA hN hZ [] (by decide) rfl [] rfl) rfl rfl hl.1 rfl (lv_room (Nat.le_of_ble_eq_true rfl)) dX11_acts_125 ⟨Nat.le_of_ble_eq_true rfl, Nat.le_of_ble_eq_true rfl⟩) hP hD hK hS hA [] [0, 1, 2, 3, 4, 5] rfl rfl (by decide) (by decide) (fun r_125 w ty1 H locs hw_125 hP hD _ hS => ?_)
    rcases hw_125 with ⟨hu, hr_125⟩
    cases hu
    have hP : va_P (dC, dI) vwCl [(qa 32, .inl (cI, 4, .inl (fun _ => 0))), (qa 34, .inl (cI, 4, .inl (fun _ => 0))), (qa 47, .inl (cI, 4, .inl (fun _ => 0))), (qa 48, .inl (cI, 4, .inl (fun _ => 0))), (qa 49, .inl (cI, 4, .inl (fun _ => 0))), (h, .inr (10, mdF qa x0 x2 x3 x4 x13 x14 x15 x16 x17 x18 x19 x20 x21 x22 x23 x24 x26 x27 x28))] H := hP
    have hD : va_D A [(qa 32, .inl (cI, 4, .inl (fun _ => 0))), (qa 34, .inl (cI, 4, .inl (fun _ => 0))), (qa 47, .inl (cI, 4, .inl (fun _ => 0))), (qa 48, .inl (cI, 4, .inl (fun _ => 0))), (qa 49, .inl (cI, 4, .inl (fun _ => 0))), (h, .inr (10, mdF qa x0 x2 x3 x4 x13 x14 x15 x16 x17 x18 x19 x20 x21 x22 x23 x24 x26 x27 x28))] := hD
    refine g_topi (y := 0) hr_125 ?_
    refine lv_if_eq (tgt := 149) hx hb dX11_acts_128 (by decide) (fun c_128 => ?_) (fun c_128 => absurd c_128 (by decide))
    refine lv_aload_n hx hb dX11_acts_149 rfl (lv_at hl 2 rfl) ?_
    refine lv_iload_n hx hb dX11_acts_150 rfl (lv_at hl 3 rfl) ?_
    refine lv_iload_n hx hb dX11_acts_151 rfl (lv_at hl 1 rfl) ?_
    refine g_callv (wr := [(qa 47, .inl (cI, 4, .inl (fun _ => 0)))]) (va_runV (As := [.int (nI cv), .int 0]) (rest := []) ⟨hx, hb, hml, hown, hts⟩ (m_reckons0 l dC dI H.size h qa x0 x2 x3 x4 x13 x14 x15 x16 x17 x18 x19 x20 x21 x22 x23 x24 x26 x27 x28 cI cv (hcv)) (cwV 2 hts (gG_V kw_907 kw_908 kw_909 kw_5 kw_910) rfl rfl rfl (by decide +kernel) ⟨Nat.le_of_ble_eq_true rfl, Nat.le_of_ble_eq_true rfl⟩) (g_preV (C := RX11) (T := TX11) (N := 53) hP hD hK hS hA hN hZ (q0 := 5) rfl rfl [5, 0, 1, 3, 4] (by decide) rfl [0] rfl) rfl rfl hl.1 rfl (lv_room (Nat.le_of_ble_eq_true rfl)) dX11_acts_152 ⟨Nat.le_of_ble_eq_true rfl, Nat.le_of_ble_eq_true rfl⟩) hP hD hK hS hA [5, 0, 1, 3, 4] [2] rfl rfl (by decide) (by decide) (fun w ty1 H locs hw_152 hP hD _ hS => ?_)
    have hu := hw_152
    cases hu
    have hP : va_P (dC, dI) vwCl [(qa 47, .inl (cI, 4, .inl (fun _ => 0))), (h, .inr (10, mdF qa x0 x2 x3 x4 x13 x14 x15 x16 x17 x18 x19 x20 x21 x22 x23 x24 x26 x27 x28)), (qa 32, .inl (cI, 4, .inl (fun _ => 0))), (qa 34, .inl (cI, 4, .inl (fun _ => 0))), (qa 48, .inl (cI, 4, .inl (fun _ => 0))), (qa 49, .inl (cI, 4, .inl (fun _ => 0)))] H := hP
    have hD : va_D A [(qa 47, .inl (cI, 4, .inl (fun _ => 0))), (h, .inr (10, mdF qa x0 x2 x3 x4 x13 x14 x15 x16 x17 x18 x19 x20 x21 x22 x23 x24 x26 x27 x28)), (qa 32, .inl (cI, 4, .inl (fun _ => 0))), (qa 34, .inl (cI, 4, .inl (fun _ => 0))), (qa 48, .inl (cI, 4, .inl (fun _ => 0))), (qa 49, .inl (cI, 4, .inl (fun _ => 0)))] := hD
    have hP9 := hP.sub (ws' := [(h, .inr (10, mdF qa x0 x2 x3 x4 x13 x14 x15 x16 x17 x18 x19 x20 x21 x22 x23 x24 x26 x27 x28)), (qa 32, .inl (cI, 4, .inl (fun _ => 0))), (qa 34, .inl (cI, 4, .inl (fun _ => 0))), (qa 47, .inl (cI, 4, .inl (fun _ => 0))), (qa 48, .inl (cI, 4, .inl (fun _ => 0))), (qa 49, .inl (cI, 4, .inl (fun _ => 0)))]) [1, 2, 3, 0, 4, 5] rfl
    have hD9 := hD.sub (ws' := [(h, .inr (10, mdF qa x0 x2 x3 x4 x13 x14 x15 x16 x17 x18 x19 x20 x21 x22 x23 x24 x26 x27 x28)), (qa 32, .inl (cI, 4, .inl (fun _ => 0))), (qa 34, .inl (cI, 4, .inl (fun _ => 0))), (qa 47, .inl (cI, 4, .inl (fun _ => 0))), (qa 48, .inl (cI, 4, .inl (fun _ => 0))), (qa 49, .inl (cI, 4, .inl (fun _ => 0)))]) [1, 2, 3, 0, 4, 5] (by decide) rfl
    have hK9 := hK.sub (tys' := []) [] rfl
    exact W.vret hx hb hr (fun t ht hW => ⟨⟨([(h, .inr (10, mdF qa x0 x2 x3 x4 x13 x14 x15 x16 x17 x18 x19 x20 x21 x22 x23 x24 x26 x27 x28)), (qa 32, .inl (cI, 4, .inl (fun _ => 0))), (qa 34, .inl (cI, 4, .inl (fun _ => 0))), (qa 47, .inl (cI, 4, .inl (fun _ => 0))), (qa 48, .inl (cI, 4, .inl (fun _ => 0))), (qa 49, .inl (cI, 4, .inl (fun _ => 0)))], []), rfl, rfl, by rw [ht]; exact hP9, va_K.moved hW.alike hK9, hD9⟩, hS.F ht⟩) hS.2.2 dX11_acts_155
  refine lv_aload_n hx hb dX11_acts_48 rfl (lv_at hl 2 rfl) ?_
  refine lv_iload_n hx hb dX11_acts_49 rfl (lv_at hl 3 rfl) ?_
  refine g_callv (wr := [(qa 32, .inl (cI, 4, .inl (fun _ => 0))), (qa 34, .inl (cI, 4, .inl (fun _ => 0))), (qa 48, .inl (cI, 4, .inl (fun _ => 0))), (qa 49, .inl (cI, 4, .inl (fun _ => 0)))]) (va_runV (As := [.int (nI cv)]) (rest := []) ⟨hx, hb, hml, hown, hts⟩ (m_comes0 l dC dI H.size h qa x0 x2 x3 x4 x13 x14 x15 x16 x17 x18 x19 x20 x21 x22 x23 x24 x26 x27 x28 cI cv (hcv)) (cwV 1 hts (gG_V kw_868 kw_869 kw_870 kw_5 kw_871) rfl rfl rfl (by decide +kernel) ⟨Nat.le_of_ble_eq_true rfl, Nat.le_of_ble_eq_true rfl⟩) (g_preV (C := RX11) (T := TX11) (N := 53) hP hD hK hS hA hN hZ (q0 := 0) rfl rfl [0, 3] (by decide) rfl [0] rfl) rfl rfl hl.1 rfl (lv_room (Nat.le_of_ble_eq_true rfl)) dX11_acts_50 ⟨Nat.le_of_ble_eq_true rfl, Nat.le_of_ble_eq_true rfl⟩) hP hD hK hS hA [0, 3] [1, 2, 4, 5] rfl rfl (by decide) (by decide) (fun w ty1 H locs hw_50 hP hD _ hS => ?_)
  have hu := hw_50
  cases hu
  have hP : va_P (dC, dI) vwCl [(qa 32, .inl (cI, 4, .inl (fun _ => 0))), (qa 34, .inl (cI, 4, .inl (fun _ => 0))), (qa 48, .inl (cI, 4, .inl (fun _ => 0))), (qa 49, .inl (cI, 4, .inl (fun _ => 0))), (h, .inr (10, mdF qa x0 x2 x3 x4 x13 x14 x15 x16 x17 x18 x19 x20 x21 x22 x23 x24 x26 x27 x28)), (qa 47, .inl (cI, 4, .inl (fun _ => 0)))] H := hP
  have hD : va_D A [(qa 32, .inl (cI, 4, .inl (fun _ => 0))), (qa 34, .inl (cI, 4, .inl (fun _ => 0))), (qa 48, .inl (cI, 4, .inl (fun _ => 0))), (qa 49, .inl (cI, 4, .inl (fun _ => 0))), (h, .inr (10, mdF qa x0 x2 x3 x4 x13 x14 x15 x16 x17 x18 x19 x20 x21 x22 x23 x24 x26 x27 x28)), (qa 47, .inl (cI, 4, .inl (fun _ => 0)))] := hD
  refine lv_aload_n hx hb dX11_acts_53 rfl (lv_at hl 2 rfl) ?_
  refine va_get (D := (dC, dI)) (ci := 10) (v := .int x19) (C := RX11) (T := TX11) (N := 53) hx hb hts iwX11 hown hK hP 4 rfl rfl 19 (by decide) (hts (.fieldLink RX11 209 "ModulePlayerModel" "tick" "I") (List.mem_cons_of_mem _ kw_222)) (fun _ h9 => h9) rfl dX11_acts_54 ?_
  refine lv_if_ne (tgt := 69) hx hb dX11_acts_57 (by decide) (fun c_57 => ?_) (fun c_57 => ?_)
  · refine lv_aload_n hx hb dX11_acts_69 rfl (lv_at hl 2 rfl) ?_
    refine lv_iload_n hx hb dX11_acts_70 rfl (lv_at hl 3 rfl) ?_
    refine lv_iload_n hx hb dX11_acts_71 rfl (lv_at hl 1 rfl) ?_
    refine g_callv (wr := [(qa 32, .inl (cI, 4, .inl (fun _ => 0))), (qa 34, .inl (cI, 4, .inl (fun _ => 0))), (qa 48, .inl (cI, 4, .inl (fun _ => 0))), (qa 49, .inl (cI, 4, .inl (fun _ => 0))), (qa 47, .inl (cI, 4, .inl (fun _ => 0)))]) (va_runV (As := [.int (nI cv), .int 0]) (rest := []) ⟨hx, hb, hml, hown, hts⟩ (m_others0 l dC dI H.size h qa x0 x2 x3 x4 x13 x14 x15 x16 x17 x18 x19 x20 x21 x22 x23 x24 x26 x27 x28 cv ) (cwV 2 hts (gG_V kw_903 kw_904 kw_905 kw_5 kw_906) rfl rfl rfl (by decide +kernel) ⟨Nat.le_of_ble_eq_true rfl, Nat.le_of_ble_eq_true rfl⟩) (g_preV (C := RX11) (T := TX11) (N := 53) hP hD hK hS hA hN hZ (q0 := 4) rfl rfl [4] (by decide) rfl [] rfl) rfl rfl hl.1 rfl (lv_room (Nat.le_of_ble_eq_true rfl)) dX11_acts_72 ⟨Nat.le_of_ble_eq_true rfl, Nat.le_of_ble_eq_true rfl⟩) hP hD hK hS hA [4] [0, 1, 2, 3, 5] rfl rfl (by decide) (by decide) (fun w ty1 H locs hw_72 hP hD _ hS => ?_)
    have hu := hw_72
    cases hu
    have hP : va_P (dC, dI) vwCl [(qa 32, .inl (cI, 4, .inl (fun _ => 0))), (qa 34, .inl (cI, 4, .inl (fun _ => 0))), (qa 48, .inl (cI, 4, .inl (fun _ => 0))), (qa 49, .inl (cI, 4, .inl (fun _ => 0))), (qa 47, .inl (cI, 4, .inl (fun _ => 0))), (h, .inr (10, mdF qa x0 x2 x3 x4 x13 x14 x15 x16 x17 x18 x19 x20 x21 x22 x23 x24 x26 x27 x28))] H := hP
    have hD : va_D A [(qa 32, .inl (cI, 4, .inl (fun _ => 0))), (qa 34, .inl (cI, 4, .inl (fun _ => 0))), (qa 48, .inl (cI, 4, .inl (fun _ => 0))), (qa 49, .inl (cI, 4, .inl (fun _ => 0))), (qa 47, .inl (cI, 4, .inl (fun _ => 0))), (h, .inr (10, mdF qa x0 x2 x3 x4 x13 x14 x15 x16 x17 x18 x19 x20 x21 x22 x23 x24 x26 x27 x28))] := hD
    refine lv_iload_n hx hb dX11_acts_75 rfl (lv_at hl 1 rfl) ?_
    refine lv_bipush (v := 9) hx hb dX11_acts_76 (by decide) ?_
    refine g_calli (wr := [(qa 32, .inl (cI, 4, .inl (fun _ => 0))), (qa 34, .inl (cI, 4, .inl (fun _ => 0))), (qa 48, .inl (cI, 4, .inl (fun _ => 0))), (qa 49, .inl (cI, 4, .inl (fun _ => 0))), (qa 47, .inl (cI, 4, .inl (fun _ => 0))), (h, .inr (10, mdF qa x0 x2 x3 x4 x13 x14 x15 x16 x17 x18 x19 x20 x21 x22 x23 x24 x26 x27 x28))]) (va_runS (As := [.int 0, .int 9]) (rest := []) ⟨hx, hb, hml, hown, hts⟩ (m_isE0 l dC dI H.size 9 ) (va_cwS 2 hts (gG_S kw_856 kw_857 kw_5 kw_858) rfl rfl rfl (by decide +kernel) ⟨Nat.le_of_ble_eq_true rfl, Nat.le_of_ble_eq_true rfl⟩) (g_preS hP hD hK hS hA hN hZ [] (by decide) rfl [] rfl) rfl rfl hl.1 rfl (lv_room (Nat.le_of_ble_eq_true rfl)) dX11_acts_78 ⟨Nat.le_of_ble_eq_true rfl, Nat.le_of_ble_eq_true rfl⟩) hP hD hK hS hA [] [0, 1, 2, 3, 4, 5] rfl rfl (by decide) (by decide) (fun r_78 w ty1 H locs hw_78 hP hD _ hS => ?_)
    rcases hw_78 with ⟨hu, hr_78⟩
    cases hu
    have hP : va_P (dC, dI) vwCl [(qa 32, .inl (cI, 4, .inl (fun _ => 0))), (qa 34, .inl (cI, 4, .inl (fun _ => 0))), (qa 48, .inl (cI, 4, .inl (fun _ => 0))), (qa 49, .inl (cI, 4, .inl (fun _ => 0))), (qa 47, .inl (cI, 4, .inl (fun _ => 0))), (h, .inr (10, mdF qa x0 x2 x3 x4 x13 x14 x15 x16 x17 x18 x19 x20 x21 x22 x23 x24 x26 x27 x28))] H := hP
    have hD : va_D A [(qa 32, .inl (cI, 4, .inl (fun _ => 0))), (qa 34, .inl (cI, 4, .inl (fun _ => 0))), (qa 48, .inl (cI, 4, .inl (fun _ => 0))), (qa 49, .inl (cI, 4, .inl (fun _ => 0))), (qa 47, .inl (cI, 4, .inl (fun _ => 0))), (h, .inr (10, mdF qa x0 x2 x3 x4 x13 x14 x15 x16 x17 x18 x19 x20 x21 x22 x23 x24 x26 x27 x28))] := hD
    refine g_topi (y := 0) hr_78 ?_
    refine lv_if_eq (tgt := 122) hx hb dX11_acts_81 (by decide) (fun c_81 => ?_) (fun c_81 => absurd c_81 (by decide))
    refine lv_iload_n hx hb dX11_acts_122 rfl (lv_at hl 1 rfl) ?_
    refine lv_bipush (v := 12) hx hb dX11_acts_123 (by decide) ?_
    refine g_calli (wr := [(qa 32, .inl (cI, 4, .inl (fun _ => 0))), (qa 34, .inl (cI, 4, .inl (fun _ => 0))), (qa 48, .inl (cI, 4, .inl (fun _ => 0))), (qa 49, .inl (cI, 4, .inl (fun _ => 0))), (qa 47, .inl (cI, 4, .inl (fun _ => 0))), (h, .inr (10, mdF qa x0 x2 x3 x4 x13 x14 x15 x16 x17 x18 x19 x20 x21 x22 x23 x24 x26 x27 x28))]) (va_runS (As := [.int 0, .int 12]) (rest := []) ⟨hx, hb, hml, hown, hts⟩ (m_isE0 l dC dI H.size 12 ) (va_cwS 2 hts (gG_S kw_856 kw_857 kw_5 kw_858) rfl rfl rfl (by decide +kernel) ⟨Nat.le_of_ble_eq_true rfl, Nat.le_of_ble_eq_true rfl⟩) (g_preS hP hD hK hS hA hN hZ [] (by decide) rfl [] rfl) rfl rfl hl.1 rfl (lv_room (Nat.le_of_ble_eq_true rfl)) dX11_acts_125 ⟨Nat.le_of_ble_eq_true rfl, Nat.le_of_ble_eq_true rfl⟩) hP hD hK hS hA [] [0, 1, 2, 3, 4, 5] rfl rfl (by decide) (by decide) (fun r_125 w ty1 H locs hw_125 hP hD _ hS => ?_)
    rcases hw_125 with ⟨hu, hr_125⟩
    cases hu
    have hP : va_P (dC, dI) vwCl [(qa 32, .inl (cI, 4, .inl (fun _ => 0))), (qa 34, .inl (cI, 4, .inl (fun _ => 0))), (qa 48, .inl (cI, 4, .inl (fun _ => 0))), (qa 49, .inl (cI, 4, .inl (fun _ => 0))), (qa 47, .inl (cI, 4, .inl (fun _ => 0))), (h, .inr (10, mdF qa x0 x2 x3 x4 x13 x14 x15 x16 x17 x18 x19 x20 x21 x22 x23 x24 x26 x27 x28))] H := hP
    have hD : va_D A [(qa 32, .inl (cI, 4, .inl (fun _ => 0))), (qa 34, .inl (cI, 4, .inl (fun _ => 0))), (qa 48, .inl (cI, 4, .inl (fun _ => 0))), (qa 49, .inl (cI, 4, .inl (fun _ => 0))), (qa 47, .inl (cI, 4, .inl (fun _ => 0))), (h, .inr (10, mdF qa x0 x2 x3 x4 x13 x14 x15 x16 x17 x18 x19 x20 x21 x22 x23 x24 x26 x27 x28))] := hD
    refine g_topi (y := 0) hr_125 ?_
    refine lv_if_eq (tgt := 149) hx hb dX11_acts_128 (by decide) (fun c_128 => ?_) (fun c_128 => absurd c_128 (by decide))
    refine lv_aload_n hx hb dX11_acts_149 rfl (lv_at hl 2 rfl) ?_
    refine lv_iload_n hx hb dX11_acts_150 rfl (lv_at hl 3 rfl) ?_
    refine lv_iload_n hx hb dX11_acts_151 rfl (lv_at hl 1 rfl) ?_
    refine g_callv (wr := [(qa 47, .inl (cI, 4, .inl (fun _ => 0)))]) (va_runV (As := [.int (nI cv), .int 0]) (rest := []) ⟨hx, hb, hml, hown, hts⟩ (m_reckons0 l dC dI H.size h qa x0 x2 x3 x4 x13 x14 x15 x16 x17 x18 x19 x20 x21 x22 x23 x24 x26 x27 x28 cI cv (hcv)) (cwV 2 hts (gG_V kw_907 kw_908 kw_909 kw_5 kw_910) rfl rfl rfl (by decide +kernel) ⟨Nat.le_of_ble_eq_true rfl, Nat.le_of_ble_eq_true rfl⟩) (g_preV (C := RX11) (T := TX11) (N := 53) hP hD hK hS hA hN hZ (q0 := 5) rfl rfl [5, 0, 1, 2, 3] (by decide) rfl [0] rfl) rfl rfl hl.1 rfl (lv_room (Nat.le_of_ble_eq_true rfl)) dX11_acts_152 ⟨Nat.le_of_ble_eq_true rfl, Nat.le_of_ble_eq_true rfl⟩) hP hD hK hS hA [5, 0, 1, 2, 3] [4] rfl rfl (by decide) (by decide) (fun w ty1 H locs hw_152 hP hD _ hS => ?_)
    have hu := hw_152
    cases hu
    have hP : va_P (dC, dI) vwCl [(qa 47, .inl (cI, 4, .inl (fun _ => 0))), (h, .inr (10, mdF qa x0 x2 x3 x4 x13 x14 x15 x16 x17 x18 x19 x20 x21 x22 x23 x24 x26 x27 x28)), (qa 32, .inl (cI, 4, .inl (fun _ => 0))), (qa 34, .inl (cI, 4, .inl (fun _ => 0))), (qa 48, .inl (cI, 4, .inl (fun _ => 0))), (qa 49, .inl (cI, 4, .inl (fun _ => 0)))] H := hP
    have hD : va_D A [(qa 47, .inl (cI, 4, .inl (fun _ => 0))), (h, .inr (10, mdF qa x0 x2 x3 x4 x13 x14 x15 x16 x17 x18 x19 x20 x21 x22 x23 x24 x26 x27 x28)), (qa 32, .inl (cI, 4, .inl (fun _ => 0))), (qa 34, .inl (cI, 4, .inl (fun _ => 0))), (qa 48, .inl (cI, 4, .inl (fun _ => 0))), (qa 49, .inl (cI, 4, .inl (fun _ => 0)))] := hD
    have hP9 := hP.sub (ws' := [(h, .inr (10, mdF qa x0 x2 x3 x4 x13 x14 x15 x16 x17 x18 x19 x20 x21 x22 x23 x24 x26 x27 x28)), (qa 32, .inl (cI, 4, .inl (fun _ => 0))), (qa 34, .inl (cI, 4, .inl (fun _ => 0))), (qa 47, .inl (cI, 4, .inl (fun _ => 0))), (qa 48, .inl (cI, 4, .inl (fun _ => 0))), (qa 49, .inl (cI, 4, .inl (fun _ => 0)))]) [1, 2, 3, 0, 4, 5] rfl
    have hD9 := hD.sub (ws' := [(h, .inr (10, mdF qa x0 x2 x3 x4 x13 x14 x15 x16 x17 x18 x19 x20 x21 x22 x23 x24 x26 x27 x28)), (qa 32, .inl (cI, 4, .inl (fun _ => 0))), (qa 34, .inl (cI, 4, .inl (fun _ => 0))), (qa 47, .inl (cI, 4, .inl (fun _ => 0))), (qa 48, .inl (cI, 4, .inl (fun _ => 0))), (qa 49, .inl (cI, 4, .inl (fun _ => 0)))]) [1, 2, 3, 0, 4, 5] (by decide) rfl
    have hK9 := hK.sub (tys' := []) [] rfl
    exact W.vret hx hb hr (fun t ht hW => ⟨⟨([(h, .inr (10, mdF qa x0 x2 x3 x4 x13 x14 x15 x16 x17 x18 x19 x20 x21 x22 x23 x24 x26 x27 x28)), (qa 32, .inl (cI, 4, .inl (fun _ => 0))), (qa 34, .inl (cI, 4, .inl (fun _ => 0))), (qa 47, .inl (cI, 4, .inl (fun _ => 0))), (qa 48, .inl (cI, 4, .inl (fun _ => 0))), (qa 49, .inl (cI, 4, .inl (fun _ => 0)))], []), rfl, rfl, by rw [ht]; exact hP9, va_K.moved hW.alike hK9, hD9⟩, hS.F ht⟩) hS.2.2 dX11_acts_155
  refine lv_aload_n hx hb dX11_acts_60 rfl (lv_at hl 2 rfl) ?_
  refine lv_iload_n hx hb dX11_acts_61 rfl (lv_at hl 3 rfl) ?_
  refine lv_iload_n hx hb dX11_acts_62 rfl (lv_at hl 1 rfl) ?_
  refine g_callv (wr := [(qa 32, .inl (cI, 4, .inl (fun _ => 0))), (qa 34, .inl (cI, 4, .inl (fun _ => 0))), (qa 48, .inl (cI, 4, .inl (fun _ => 0))), (qa 49, .inl (cI, 4, .inl (fun _ => 0))), (qa 47, .inl (cI, 4, .inl (fun _ => 0)))]) (va_runV (As := [.int (nI cv), .int 0]) (rest := []) ⟨hx, hb, hml, hown, hts⟩ (m_first0 l dC dI H.size h qa x0 x2 x3 x4 x13 x14 x15 x16 x17 x18 x19 x20 x21 x22 x23 x24 x26 x27 x28 cv ) (cwV 2 hts (gG_V kw_883 kw_884 kw_885 kw_5 kw_886) rfl rfl rfl (by decide +kernel) ⟨Nat.le_of_ble_eq_true rfl, Nat.le_of_ble_eq_true rfl⟩) (g_preV (C := RX11) (T := TX11) (N := 53) hP hD hK hS hA hN hZ (q0 := 4) rfl rfl [4] (by decide) rfl [] rfl) rfl rfl hl.1 rfl (lv_room (Nat.le_of_ble_eq_true rfl)) dX11_acts_63 ⟨Nat.le_of_ble_eq_true rfl, Nat.le_of_ble_eq_true rfl⟩) hP hD hK hS hA [4] [0, 1, 2, 3, 5] rfl rfl (by decide) (by decide) (fun w ty1 H locs hw_63 hP hD _ hS => ?_)
  have hu := hw_63
  cases hu
  have hP : va_P (dC, dI) vwCl [(qa 32, .inl (cI, 4, .inl (fun _ => 0))), (qa 34, .inl (cI, 4, .inl (fun _ => 0))), (qa 48, .inl (cI, 4, .inl (fun _ => 0))), (qa 49, .inl (cI, 4, .inl (fun _ => 0))), (qa 47, .inl (cI, 4, .inl (fun _ => 0))), (h, .inr (10, mdF qa x0 x2 x3 x4 x13 x14 x15 x16 x17 x18 x19 x20 x21 x22 x23 x24 x26 x27 x28))] H := hP
  have hD : va_D A [(qa 32, .inl (cI, 4, .inl (fun _ => 0))), (qa 34, .inl (cI, 4, .inl (fun _ => 0))), (qa 48, .inl (cI, 4, .inl (fun _ => 0))), (qa 49, .inl (cI, 4, .inl (fun _ => 0))), (qa 47, .inl (cI, 4, .inl (fun _ => 0))), (h, .inr (10, mdF qa x0 x2 x3 x4 x13 x14 x15 x16 x17 x18 x19 x20 x21 x22 x23 x24 x26 x27 x28))] := hD
  refine lv_goto (tgt := 75) hx hb dX11_acts_66 (by decide) ?_
  refine lv_iload_n hx hb dX11_acts_75 rfl (lv_at hl 1 rfl) ?_
  refine lv_bipush (v := 9) hx hb dX11_acts_76 (by decide) ?_
  refine g_calli (wr := [(qa 32, .inl (cI, 4, .inl (fun _ => 0))), (qa 34, .inl (cI, 4, .inl (fun _ => 0))), (qa 48, .inl (cI, 4, .inl (fun _ => 0))), (qa 49, .inl (cI, 4, .inl (fun _ => 0))), (qa 47, .inl (cI, 4, .inl (fun _ => 0))), (h, .inr (10, mdF qa x0 x2 x3 x4 x13 x14 x15 x16 x17 x18 x19 x20 x21 x22 x23 x24 x26 x27 x28))]) (va_runS (As := [.int 0, .int 9]) (rest := []) ⟨hx, hb, hml, hown, hts⟩ (m_isE0 l dC dI H.size 9 ) (va_cwS 2 hts (gG_S kw_856 kw_857 kw_5 kw_858) rfl rfl rfl (by decide +kernel) ⟨Nat.le_of_ble_eq_true rfl, Nat.le_of_ble_eq_true rfl⟩) (g_preS hP hD hK hS hA hN hZ [] (by decide) rfl [] rfl) rfl rfl hl.1 rfl (lv_room (Nat.le_of_ble_eq_true rfl)) dX11_acts_78 ⟨Nat.le_of_ble_eq_true rfl, Nat.le_of_ble_eq_true rfl⟩) hP hD hK hS hA [] [0, 1, 2, 3, 4, 5] rfl rfl (by decide) (by decide) (fun r_78 w ty1 H locs hw_78 hP hD _ hS => ?_)
  rcases hw_78 with ⟨hu, hr_78⟩
  cases hu
  have hP : va_P (dC, dI) vwCl [(qa 32, .inl (cI, 4, .inl (fun _ => 0))), (qa 34, .inl (cI, 4, .inl (fun _ => 0))), (qa 48, .inl (cI, 4, .inl (fun _ => 0))), (qa 49, .inl (cI, 4, .inl (fun _ => 0))), (qa 47, .inl (cI, 4, .inl (fun _ => 0))), (h, .inr (10, mdF qa x0 x2 x3 x4 x13 x14 x15 x16 x17 x18 x19 x20 x21 x22 x23 x24 x26 x27 x28))] H := hP
  have hD : va_D A [(qa 32, .inl (cI, 4, .inl (fun _ => 0))), (qa 34, .inl (cI, 4, .inl (fun _ => 0))), (qa 48, .inl (cI, 4, .inl (fun _ => 0))), (qa 49, .inl (cI, 4, .inl (fun _ => 0))), (qa 47, .inl (cI, 4, .inl (fun _ => 0))), (h, .inr (10, mdF qa x0 x2 x3 x4 x13 x14 x15 x16 x17 x18 x19 x20 x21 x22 x23 x24 x26 x27 x28))] := hD
  refine g_topi (y := 0) hr_78 ?_
  refine lv_if_eq (tgt := 122) hx hb dX11_acts_81 (by decide) (fun c_81 => ?_) (fun c_81 => absurd c_81 (by decide))
  refine lv_iload_n hx hb dX11_acts_122 rfl (lv_at hl 1 rfl) ?_
  refine lv_bipush (v := 12) hx hb dX11_acts_123 (by decide) ?_
  refine g_calli (wr := [(qa 32, .inl (cI, 4, .inl (fun _ => 0))), (qa 34, .inl (cI, 4, .inl (fun _ => 0))), (qa 48, .inl (cI, 4, .inl (fun _ => 0))), (qa 49, .inl (cI, 4, .inl (fun _ => 0))), (qa 47, .inl (cI, 4, .inl (fun _ => 0))), (h, .inr (10, mdF qa x0 x2 x3 x4 x13 x14 x15 x16 x17 x18 x19 x20 x21 x22 x23 x24 x26 x27 x28))]) (va_runS (As := [.int 0, .int 12]) (rest := []) ⟨hx, hb, hml, hown, hts⟩ (m_isE0 l dC dI H.size 12 ) (va_cwS 2 hts (gG_S kw_856 kw_857 kw_5 kw_858) rfl rfl rfl (by decide +kernel) ⟨Nat.le_of_ble_eq_true rfl, Nat.le_of_ble_eq_true rfl⟩) (g_preS hP hD hK hS hA hN hZ [] (by decide) rfl [] rfl) rfl rfl hl.1 rfl (lv_room (Nat.le_of_ble_eq_true rfl)) dX11_acts_125 ⟨Nat.le_of_ble_eq_true rfl, Nat.le_of_ble_eq_true rfl⟩) hP hD hK hS hA [] [0, 1, 2, 3, 4, 5] rfl rfl (by decide) (by decide) (fun r_125 w ty1 H locs hw_125 hP hD _ hS => ?_)
  rcases hw_125 with ⟨hu, hr_125⟩
  cases hu
  have hP : va_P (dC, dI) vwCl [(qa 32, .inl (cI, 4, .inl (fun _ => 0))), (qa 34, .inl (cI, 4, .inl (fun _ => 0))), (qa 48, .inl (cI, 4, .inl (fun _ => 0))), (qa 49, .inl (cI, 4, .inl (fun _ => 0))), (qa 47, .inl (cI, 4, .inl (fun _ => 0))), (h, .inr (10, mdF qa x0 x2 x3 x4 x13 x14 x15 x16 x17 x18 x19 x20 x21 x22 x23 x24 x26 x27 x28))] H := hP
  have hD : va_D A [(qa 32, .inl (cI, 4, .inl (fun _ => 0))), (qa 34, .inl (cI, 4, .inl (fun _ => 0))), (qa 48, .inl (cI, 4, .inl (fun _ => 0))), (qa 49, .inl (cI, 4, .inl (fun _ => 0))), (qa 47, .inl (cI, 4, .inl (fun _ => 0))), (h, .inr (10, mdF qa x0 x2 x3 x4 x13 x14 x15 x16 x17 x18 x19 x20 x21 x22 x23 x24 x26 x27 x28))] := hD
  refine g_topi (y := 0) hr_125 ?_
  refine lv_if_eq (tgt := 149) hx hb dX11_acts_128 (by decide) (fun c_128 => ?_) (fun c_128 => absurd c_128 (by decide))
  refine lv_aload_n hx hb dX11_acts_149 rfl (lv_at hl 2 rfl) ?_
  refine lv_iload_n hx hb dX11_acts_150 rfl (lv_at hl 3 rfl) ?_
  refine lv_iload_n hx hb dX11_acts_151 rfl (lv_at hl 1 rfl) ?_
  refine g_callv (wr := [(qa 47, .inl (cI, 4, .inl (fun _ => 0)))]) (va_runV (As := [.int (nI cv), .int 0]) (rest := []) ⟨hx, hb, hml, hown, hts⟩ (m_reckons0 l dC dI H.size h qa x0 x2 x3 x4 x13 x14 x15 x16 x17 x18 x19 x20 x21 x22 x23 x24 x26 x27 x28 cI cv (hcv)) (cwV 2 hts (gG_V kw_907 kw_908 kw_909 kw_5 kw_910) rfl rfl rfl (by decide +kernel) ⟨Nat.le_of_ble_eq_true rfl, Nat.le_of_ble_eq_true rfl⟩) (g_preV (C := RX11) (T := TX11) (N := 53) hP hD hK hS hA hN hZ (q0 := 5) rfl rfl [5, 0, 1, 2, 3] (by decide) rfl [0] rfl) rfl rfl hl.1 rfl (lv_room (Nat.le_of_ble_eq_true rfl)) dX11_acts_152 ⟨Nat.le_of_ble_eq_true rfl, Nat.le_of_ble_eq_true rfl⟩) hP hD hK hS hA [5, 0, 1, 2, 3] [4] rfl rfl (by decide) (by decide) (fun w ty1 H locs hw_152 hP hD _ hS => ?_)
  have hu := hw_152
  cases hu
  have hP : va_P (dC, dI) vwCl [(qa 47, .inl (cI, 4, .inl (fun _ => 0))), (h, .inr (10, mdF qa x0 x2 x3 x4 x13 x14 x15 x16 x17 x18 x19 x20 x21 x22 x23 x24 x26 x27 x28)), (qa 32, .inl (cI, 4, .inl (fun _ => 0))), (qa 34, .inl (cI, 4, .inl (fun _ => 0))), (qa 48, .inl (cI, 4, .inl (fun _ => 0))), (qa 49, .inl (cI, 4, .inl (fun _ => 0)))] H := hP
  have hD : va_D A [(qa 47, .inl (cI, 4, .inl (fun _ => 0))), (h, .inr (10, mdF qa x0 x2 x3 x4 x13 x14 x15 x16 x17 x18 x19 x20 x21 x22 x23 x24 x26 x27 x28)), (qa 32, .inl (cI, 4, .inl (fun _ => 0))), (qa 34, .inl (cI, 4, .inl (fun _ => 0))), (qa 48, .inl (cI, 4, .inl (fun _ => 0))), (qa 49, .inl (cI, 4, .inl (fun _ => 0)))] := hD
  have hP9 := hP.sub (ws' := [(h, .inr (10, mdF qa x0 x2 x3 x4 x13 x14 x15 x16 x17 x18 x19 x20 x21 x22 x23 x24 x26 x27 x28)), (qa 32, .inl (cI, 4, .inl (fun _ => 0))), (qa 34, .inl (cI, 4, .inl (fun _ => 0))), (qa 47, .inl (cI, 4, .inl (fun _ => 0))), (qa 48, .inl (cI, 4, .inl (fun _ => 0))), (qa 49, .inl (cI, 4, .inl (fun _ => 0)))]) [1, 2, 3, 0, 4, 5] rfl
  have hD9 := hD.sub (ws' := [(h, .inr (10, mdF qa x0 x2 x3 x4 x13 x14 x15 x16 x17 x18 x19 x20 x21 x22 x23 x24 x26 x27 x28)), (qa 32, .inl (cI, 4, .inl (fun _ => 0))), (qa 34, .inl (cI, 4, .inl (fun _ => 0))), (qa 47, .inl (cI, 4, .inl (fun _ => 0))), (qa 48, .inl (cI, 4, .inl (fun _ => 0))), (qa 49, .inl (cI, 4, .inl (fun _ => 0)))]) [1, 2, 3, 0, 4, 5] (by decide) rfl
  have hK9 := hK.sub (tys' := []) [] rfl
  exact W.vret hx hb hr (fun t ht hW => ⟨⟨([(h, .inr (10, mdF qa x0 x2 x3 x4 x13 x14 x15 x16 x17 x18 x19 x20 x21 x22 x23 x24 x26 x27 x28)), (qa 32, .inl (cI, 4, .inl (fun _ => 0))), (qa 34, .inl (cI, 4, .inl (fun _ => 0))), (qa 47, .inl (cI, 4, .inl (fun _ => 0))), (qa 48, .inl (cI, 4, .inl (fun _ => 0))), (qa 49, .inl (cI, 4, .inl (fun _ => 0)))], []), rfl, rfl, by rw [ht]; exact hP9, va_K.moved hW.alike hK9, hD9⟩, hS.F ht⟩) hS.2.2 dX11_acts_155

set_option maxHeartbeats 400000 in
set_option maxRecDepth 100000 in
theorem m_heard0 (l : Launch) (dC : Nat → ClassId) (dI : Nat → Nat → Nat) (sz : Nat) (h : Nat) (qa : Nat → Nat) (x0 x2 x3 x4 x13 x14 x15 x16 x17 x18 x19 x20 x21 x22 x23 x24 x26 x27 x28 : Int32) (cZ : ClassId) (cv : Nat) (hcv : cv < 4) : Met l yX11_heard (wsG (.code yX11_heard cX11_heard 4 (some .int))) ({ frames := 0, cells := 0, slots := 0, locals := 0 }) (va_Pc [.ref h, .int (nI cv)] (gP (dC, dI) [(cZ, .boolean)] [(h, .inr (10, mdF qa x0 x2 x3 x4 x13 x14 x15 x16 x17 x18 x19 x20 x21 x22 x23 x24 x26 x27 x28)), (qa 51, .inl (cZ, 4, .inl (fun _ => 0)))] sz)) (va_Qi (fun (r : Int32) (u : va_W × gT) => u = ([(h, .inr (10, mdF qa x0 x2 x3 x4 x13 x14 x15 x16 x17 x18 x19 x20 x21 x22 x23 x24 x26 x27 x28)), (qa 51, .inl (cZ, 4, .inl (fun _ => 0)))], []) ∧ r = 0) (gB (dC, dI) (va_A [(h, .inr (10, mdF qa x0 x2 x3 x4 x13 x14 x15 x16 x17 x18 x19 x20 x21 x22 x23 x24 x26 x27 x28)), (qa 51, .inl (cZ, 4, .inl (fun _ => 0)))] sz)) (va_A [(h, .inr (10, mdF qa x0 x2 x3 x4 x13 x14 x15 x16 x17 x18 x19 x20 x21 x22 x23 x24 x26 x27 x28)), (qa 51, .inl (cZ, 4, .inl (fun _ => 0)))] sz)) 0 0 (va_A [(h, .inr (10, mdF qa x0 x2 x3 x4 x13 x14 x15 x16 x17 x18 x19 x20 x21 x22 x23 x24 x26 x27 x28)), (qa 51, .inl (cZ, 4, .inl (fun _ => 0)))] sz) := by
  refine Met.ofW (cc := cX11_heard) (maxL := 4) (ret := (some .int)) (by decide) rfl ?_
  intro p e s m args below meth c s₁ B hml hv
  obtain ⟨rfl, hsz, hP, hK, hD0, hN, hZ⟩ := hv
  have hx := B.exec
  have hb := B.bytes
  have hr := B.returns
  have hts := atoms_spec (ws := (wsG (.code yX11_heard cX11_heard 4 (some .int)))) B.pre
  have hown : s.vm.findClass RX11 = some m.cls := findClass_of_methodNamed B.named
  have hlocks := B.notSynchronized
  subst hsz
  have hD := hD0.self (sz := s.heap.size)
  generalize hAe : va_A [(h, .inr (10, mdF qa x0 x2 x3 x4 x13 x14 x15 x16 x17 x18 x19 x20 x21 x22 x23 x24 x26 x27 x28)), (qa 51, .inl (cZ, 4, .inl (fun _ => 0)))] s.heap.size = A at hD hZ ⊢
  have hA : ∀ q : Nat, s.heap.size ≤ q → A q := fun q h => by rw [← hAe]; exact Or.inr h
  have hl := lv_entry ([.ref h, .int (nI cv)]) (n := 4) (Nat.le_of_ble_eq_true rfl)
  rw [lg_entry_eq]
  generalize (lg_sl ([.ref h, .int (nI cv)]) ++ List.replicate (4 - (lg_sl ([.ref h, .int (nI cv)])).length) Slot.unset).toArray = ls at hl ⊢
  have hl : lv_has ls 4 [(0, .ref h), (1, .int (nI cv))] := hl
  refine g_start (A := A) hP (fun H locs hP hS => ?_)
  refine lv_aload_n hx hb dX11_heard_0 rfl (lv_at hl 0 rfl) ?_
  refine va_get (D := (dC, dI)) (ci := 10) (v := .ref (qa 51)) (C := RX11) (T := TX11) (N := 53) hx hb hts iwX11 hown hK hP 0 rfl rfl 51 (by decide) (hts (.fieldLink RX11 117 "ModulePlayerModel" "sounds" "[Z") (List.mem_cons_of_mem _ kw_207)) (fun _ h9 => h9) rfl dX11_heard_1 ?_
  refine lv_iload_n hx hb dX11_heard_4 rfl (lv_at hl 1 rfl) ?_
  refine g_zald hx hb hK hP 1 0 rfl rfl cv (nI_clamp (Nat.lt_trans (show cv < 4 from hcv) (by decide))) (vp_in_nI (hcv) (by decide)) dX11_heard_5 ?_
  refine lv_if_eq (tgt := 18) hx hb dX11_heard_6 (by decide) (fun c_6 => ?_) (fun c_6 => absurd c_6 (by decide))
  refine lv_iconst (v := 0) hx hb dX11_heard_18 (by decide) ?_
  have hP9 := hP.sub (ws' := [(h, .inr (10, mdF qa x0 x2 x3 x4 x13 x14 x15 x16 x17 x18 x19 x20 x21 x22 x23 x24 x26 x27 x28)), (qa 51, .inl (cZ, 4, .inl (fun _ => 0)))]) [0, 1] rfl
  have hD9 := hD.sub (ws' := [(h, .inr (10, mdF qa x0 x2 x3 x4 x13 x14 x15 x16 x17 x18 x19 x20 x21 x22 x23 x24 x26 x27 x28)), (qa 51, .inl (cZ, 4, .inl (fun _ => 0)))]) [0, 1] (by decide) rfl
  have hK9 := hK.sub (tys' := []) [] rfl
  exact W.iret (v := 0) hx hb hr (fun t ht hW => ⟨⟨0, ([(h, .inr (10, mdF qa x0 x2 x3 x4 x13 x14 x15 x16 x17 x18 x19 x20 x21 x22 x23 x24 x26 x27 x28)), (qa 51, .inl (cZ, 4, .inl (fun _ => 0)))], []), rfl, ⟨rfl, rfl⟩, by rw [ht]; exact hP9, va_K.moved hW.alike hK9, hD9⟩, hS.F ht⟩) hS.2.2 dX11_heard_19

set_option maxHeartbeats 400000 in
set_option maxRecDepth 100000 in
theorem m_mix0 (l : Launch) (dC : Nat → ClassId) (dI : Nat → Nat → Nat) (sz : Nat) (h : Nat) (qa : Nat → Nat) (x2 x3 x4 x13 x14 x15 x17 x18 x19 x20 x21 x22 x23 x24 x26 x27 x28 : Int32) (cI cZ : ClassId) (kk : Nat) (fl fr_ : Nat → Int32) (hkk : kk ≤ 16000) : Met l yX11_mix (wsG (.code yX11_mix cX11_mix 4 none)) ({ frames := 1, cells := 0, slots := 0, locals := 23 }) (va_Pc [.ref h] (gP (dC, dI) [(cI, .int), (cZ, .boolean)] [(h, .inr (10, mdF qa (nI kk) x2 x3 x4 x13 x14 x15 125 x17 x18 x19 x20 x21 x22 x23 x24 x26 x27 x28)), (qa 29, .inl (cI, 1300, .inl fl)), (qa 30, .inl (cI, 1300, .inl fr_)), (qa 51, .inl (cZ, 4, .inl (fun _ => 0)))] sz)) (va_Qv (fun u : va_W × gT => ∃ (fr2 : Int32) (sm2 : Int32) (fl2 : Nat → Int32) (fr_2 : Nat → Int32), u = ([(h, .inr (10, mdF qa (nI kk) x2 x3 x4 x13 x14 x15 125 x17 x18 x19 x20 x21 sm2 x23 fr2 x26 x27 x28)), (qa 29, .inl (cI, 1300, .inl fl2)), (qa 30, .inl (cI, 1300, .inl fr_2)), (qa 51, .inl (cZ, 4, .inl (fun _ => 0)))], [])) (gB (dC, dI) (va_A [(h, .inr (10, mdF qa (nI kk) x2 x3 x4 x13 x14 x15 125 x17 x18 x19 x20 x21 x22 x23 x24 x26 x27 x28)), (qa 29, .inl (cI, 1300, .inl fl)), (qa 30, .inl (cI, 1300, .inl fr_)), (qa 51, .inl (cZ, 4, .inl (fun _ => 0)))] sz)) (va_A [(h, .inr (10, mdF qa (nI kk) x2 x3 x4 x13 x14 x15 125 x17 x18 x19 x20 x21 x22 x23 x24 x26 x27 x28)), (qa 29, .inl (cI, 1300, .inl fl)), (qa 30, .inl (cI, 1300, .inl fr_)), (qa 51, .inl (cZ, 4, .inl (fun _ => 0)))] sz)) 0 0 (va_A [(h, .inr (10, mdF qa (nI kk) x2 x3 x4 x13 x14 x15 125 x17 x18 x19 x20 x21 x22 x23 x24 x26 x27 x28)), (qa 29, .inl (cI, 1300, .inl fl)), (qa 30, .inl (cI, 1300, .inl fr_)), (qa 51, .inl (cZ, 4, .inl (fun _ => 0)))] sz) := by
  refine Met.ofW (cc := cX11_mix) (maxL := 4) (ret := none) (by decide) rfl ?_
  intro p e s m args below meth c s₁ B hml hv
  obtain ⟨rfl, hsz, hP, hK, hD0, hN, hZ⟩ := hv
  have hx := B.exec
  have hb := B.bytes
  have hr := B.returns
  have hts := atoms_spec (ws := (wsG (.code yX11_mix cX11_mix 4 none))) B.pre
  have hown : s.vm.findClass RX11 = some m.cls := findClass_of_methodNamed B.named
  have hlocks := B.notSynchronized
  subst hsz
  have hD := hD0.self (sz := s.heap.size)
  generalize hAe : va_A [(h, .inr (10, mdF qa (nI kk) x2 x3 x4 x13 x14 x15 125 x17 x18 x19 x20 x21 x22 x23 x24 x26 x27 x28)), (qa 29, .inl (cI, 1300, .inl fl)), (qa 30, .inl (cI, 1300, .inl fr_)), (qa 51, .inl (cZ, 4, .inl (fun _ => 0)))] s.heap.size = A at hD hZ ⊢
  have hA : ∀ q : Nat, s.heap.size ≤ q → A q := fun q h => by rw [← hAe]; exact Or.inr h
  have hl := lv_entry ([.ref h]) (n := 4) (Nat.le_of_ble_eq_true rfl)
  rw [lg_entry_eq]
  generalize (lg_sl ([.ref h]) ++ List.replicate (4 - (lg_sl ([.ref h])).length) Slot.unset).toArray = ls at hl ⊢
  have hl : lv_has ls 4 [(0, .ref h)] := hl
  refine g_start (A := A) hP (fun H locs hP hS => ?_)
  refine lv_aload_n hx hb dX11_mix_0 rfl (lv_at hl 0 rfl) ?_
  refine lv_aload_n hx hb dX11_mix_1 rfl (lv_at hl 0 rfl) ?_
  refine va_get (D := (dC, dI)) (ci := 10) (v := .int (nI kk)) (C := RX11) (T := TX11) (N := 53) hx hb hts iwX11 hown hK hP 0 rfl rfl 0 (by decide) (hts (.fieldLink RX11 132 "ModulePlayerModel" "rate" "I") (List.mem_cons_of_mem _ kw_213)) (fun _ h9 => h9) rfl dX11_mix_2 ?_
  refine lv_iconst (v := 5) hx hb dX11_mix_5 (by decide) ?_
  refine lv_imul hx hb dX11_mix_6 ?_
  refine g_topi (y := nI (kk * 5)) (pk_mul kk 5) ?_
  refine lv_iconst (v := 2) hx hb dX11_mix_7 (by decide) ?_
  refine lv_aload_n hx hb dX11_mix_8 rfl (lv_at hl 0 rfl) ?_
  refine va_get (D := (dC, dI)) (ci := 10) (v := .int 125) (C := RX11) (T := TX11) (N := 53) hx hb hts iwX11 hown hK hP 0 rfl rfl 16 (by decide) (hts (.fieldLink RX11 200 "ModulePlayerModel" "tempo" "I") (List.mem_cons_of_mem _ kw_219)) (fun _ h9 => h9) rfl dX11_mix_9 ?_
  refine lv_imul hx hb dX11_mix_12 ?_
  refine g_topi (y := 250) (by decide) ?_
  refine lv_idiv hx hb dX11_mix_13 (by decide) ?_
  refine g_topi (y := nI (kk * 5 / 250)) (pk_div (by omega) (by decide) (by decide)) ?_
  refine va_put (D := (dC, dI)) (ci := 10) (v := .int (nI (kk * 5 / 250))) (ty := tyX11 24) (C := RX11) (T := TX11) (N := 53) hx hb hts iwX11 tyX11 tyX11_ok nmX11 hown hK hP hD hS 0 rfl rfl 24 (by decide) (hts (.fieldLink RX11 212 "ModulePlayerModel" "frames" "I") (List.mem_cons_of_mem _ kw_223)) (fun _ h9 => h9) rfl (by decide +kernel) (rfl) (rfl) (Nat.le_of_ble_eq_true rfl) dX11_mix_14 (fun H locs hP hD hS => ?_)
  have hP : va_P (dC, dI) vwCl [(h, .inr (10, mdF qa (nI kk) x2 x3 x4 x13 x14 x15 125 x17 x18 x19 x20 x21 x22 x23 (nI (kk * 5 / 250)) x26 x27 x28)), (qa 29, .inl (cI, 1300, .inl fl)), (qa 30, .inl (cI, 1300, .inl fr_)), (qa 51, .inl (cZ, 4, .inl (fun _ => 0)))] H := hP
  have hD : va_D A [(h, .inr (10, mdF qa (nI kk) x2 x3 x4 x13 x14 x15 125 x17 x18 x19 x20 x21 x22 x23 (nI (kk * 5 / 250)) x26 x27 x28)), (qa 29, .inl (cI, 1300, .inl fl)), (qa 30, .inl (cI, 1300, .inl fr_)), (qa 51, .inl (cZ, 4, .inl (fun _ => 0)))] := hD
  refine lv_iconst (v := 0) hx hb dX11_mix_17 (by decide) ?_
  refine lv_istore_n (lv' := [(1, .int 0), (0, .ref h)]) hx hb dX11_mix_18 rfl hl (by decide) rfl (fun ls hl => ?_)
  have LP19 : ∀ (fu19 : Nat) (qq : Nat) (sm1 : Int32) (fl1 fr1 : Nat → Int32) (hq : qq ≤ kk * 5 / 250) (hm19 : kk * 5 / 250 - qq < fu19) (H : Heap) (locs : List Loc), va_P (dC, dI) vwCl [(h, .inr (10, mdF qa (nI kk) x2 x3 x4 x13 x14 x15 125 x17 x18 x19 x20 x21 sm1 x23 (nI (kk * 5 / 250)) x26 x27 x28)), (qa 29, .inl (cI, 1300, .inl fl1)), (qa 30, .inl (cI, 1300, .inl fr1)), (qa 51, .inl (cZ, 4, .inl (fun _ => 0)))] H → va_D A [(h, .inr (10, mdF qa (nI kk) x2 x3 x4 x13 x14 x15 125 x17 x18 x19 x20 x21 sm1 x23 (nI (kk * 5 / 250)) x26 x27 x28)), (qa 29, .inl (cI, 1300, .inl fl1)), (qa 30, .inl (cI, 1300, .inl fr1)), (qa 51, .inl (cZ, 4, .inl (fun _ => 0)))] → va_S A s.heap H locs → ∀ ls : Array Slot, lv_has ls 4 [(1, .int (nI qq)), (0, .ref h)] → W p l e ({ frames := 1, cells := 0, slots := 0, locals := 23 }) s m ([.ref h] : List Value).toArray below meth c H locs (0) (0) (MQ below (va_Qv (fun u : va_W × gT => ∃ (fr2 : Int32) (sm2 : Int32) (fl2 : Nat → Int32) (fr_2 : Nat → Int32), u = ([(h, .inr (10, mdF qa (nI kk) x2 x3 x4 x13 x14 x15 125 x17 x18 x19 x20 x21 sm2 x23 fr2 x26 x27 x28)), (qa 29, .inl (cI, 1300, .inl fl2)), (qa 30, .inl (cI, 1300, .inl fr_2)), (qa 51, .inl (cZ, 4, .inl (fun _ => 0)))], [])) (gB (dC, dI) A) A) ([.ref h] : List Value).toArray s 0 0 A) (F0 m 19 ls []) := by
    intro fu19
    induction fu19 with
    | zero => intro qq sm1 fl1 fr1 hq hm19; exact absurd hm19 (Nat.not_lt_zero _)
    | succ fu19 ih19 =>
      intro qq sm1 fl1 fr1 hq hm19 H locs hP hD hS ls hl
      refine lv_iload_n hx hb dX11_mix_19 rfl (lv_at hl 0 rfl) ?_
      refine lv_aload_n hx hb dX11_mix_20 rfl (lv_at hl 1 rfl) ?_
      refine va_get (D := (dC, dI)) (ci := 10) (v := .int (nI (kk * 5 / 250))) (C := RX11) (T := TX11) (N := 53) hx hb hts iwX11 hown hK hP 0 rfl rfl 24 (by decide) (hts (.fieldLink RX11 212 "ModulePlayerModel" "frames" "I") (List.mem_cons_of_mem _ kw_223)) (fun _ h9 => h9) rfl dX11_mix_21 ?_
      refine lv_icmp_ge (tgt := 101) hx hb dX11_mix_24 (by decide) (fun c_24 => ?_) (fun c_24 => ?_)
      · have hP9 := hP.sub (ws' := [(h, .inr (10, mdF qa (nI kk) x2 x3 x4 x13 x14 x15 125 x17 x18 x19 x20 x21 sm1 x23 (nI (kk * 5 / 250)) x26 x27 x28)), (qa 29, .inl (cI, 1300, .inl fl1)), (qa 30, .inl (cI, 1300, .inl fr1)), (qa 51, .inl (cZ, 4, .inl (fun _ => 0)))]) [0, 1, 2, 3] rfl
        have hD9 := hD.sub (ws' := [(h, .inr (10, mdF qa (nI kk) x2 x3 x4 x13 x14 x15 125 x17 x18 x19 x20 x21 sm1 x23 (nI (kk * 5 / 250)) x26 x27 x28)), (qa 29, .inl (cI, 1300, .inl fl1)), (qa 30, .inl (cI, 1300, .inl fr1)), (qa 51, .inl (cZ, 4, .inl (fun _ => 0)))]) [0, 1, 2, 3] (by decide) rfl
        have hK9 := hK.sub (tys' := []) [] rfl
        exact W.vret hx hb hr (fun t ht hW => ⟨⟨([(h, .inr (10, mdF qa (nI kk) x2 x3 x4 x13 x14 x15 125 x17 x18 x19 x20 x21 sm1 x23 (nI (kk * 5 / 250)) x26 x27 x28)), (qa 29, .inl (cI, 1300, .inl fl1)), (qa 30, .inl (cI, 1300, .inl fr1)), (qa 51, .inl (cZ, 4, .inl (fun _ => 0)))], []), rfl, ⟨(nI (kk * 5 / 250)), sm1, fl1, fr1, rfl⟩, by rw [ht]; exact hP9, va_K.moved hW.alike hK9, hD9⟩, hS.F ht⟩) hS.2.2 dX11_mix_101
      refine lv_aload_n hx hb dX11_mix_27 rfl (lv_at hl 1 rfl) ?_
      refine lv_iconst (v := 0) hx hb dX11_mix_28 (by decide) ?_
      refine g_calli (wr := [(qa 29, .inl (cI, 1300, .inl fl1)), (qa 30, .inl (cI, 1300, .inl fr1))]) (va_runV (As := [.int 0]) (rest := []) ⟨hx, hb, hml, hown, hts⟩ (m_heard0 l dC dI H.size h qa (nI kk) x2 x3 x4 x13 x14 x15 125 x17 x18 x19 x20 x21 sm1 x23 (nI (kk * 5 / 250)) x26 x27 x28 cZ 0 (by decide)) (cwV 1 hts (gG_V kw_918 kw_919 kw_920 kw_5 kw_921) rfl rfl rfl (by decide +kernel) ⟨Nat.le_of_ble_eq_true rfl, Nat.le_of_ble_eq_true rfl⟩) (g_preV (C := RX11) (T := TX11) (N := 53) hP hD hK hS hA hN hZ (q0 := 0) rfl rfl [0, 3] (by decide) rfl [1] rfl) rfl rfl hl.1 rfl (lv_room (Nat.le_of_ble_eq_true rfl)) dX11_mix_29 ⟨Nat.le_of_ble_eq_true rfl, Nat.le_of_ble_eq_true rfl⟩) hP hD hK hS hA [0, 3] [1, 2] rfl rfl (by decide) (by decide) (fun r_29 w ty1 H locs hw_29 hP hD _ hS => ?_)
      rcases hw_29 with ⟨hu, hr_29⟩
      cases hu
      have hP : va_P (dC, dI) vwCl [(qa 29, .inl (cI, 1300, .inl fl1)), (qa 30, .inl (cI, 1300, .inl fr1)), (h, .inr (10, mdF qa (nI kk) x2 x3 x4 x13 x14 x15 125 x17 x18 x19 x20 x21 sm1 x23 (nI (kk * 5 / 250)) x26 x27 x28)), (qa 51, .inl (cZ, 4, .inl (fun _ => 0)))] H := hP
      have hD : va_D A [(qa 29, .inl (cI, 1300, .inl fl1)), (qa 30, .inl (cI, 1300, .inl fr1)), (h, .inr (10, mdF qa (nI kk) x2 x3 x4 x13 x14 x15 125 x17 x18 x19 x20 x21 sm1 x23 (nI (kk * 5 / 250)) x26 x27 x28)), (qa 51, .inl (cZ, 4, .inl (fun _ => 0)))] := hD
      refine g_topi (y := 0) hr_29 ?_
      refine lv_istore_n (lv' := [(2, .int 0), (1, .int (nI qq)), (0, .ref h)]) hx hb dX11_mix_32 rfl hl (by decide) rfl (fun ls hl => ?_)
      refine lv_aload_n hx hb dX11_mix_33 rfl (lv_at hl 2 rfl) ?_
      refine lv_iconst (v := 1) hx hb dX11_mix_34 (by decide) ?_
      refine g_calli (wr := [(qa 29, .inl (cI, 1300, .inl fl1)), (qa 30, .inl (cI, 1300, .inl fr1))]) (va_runV (As := [.int 1]) (rest := []) ⟨hx, hb, hml, hown, hts⟩ (m_heard0 l dC dI H.size h qa (nI kk) x2 x3 x4 x13 x14 x15 125 x17 x18 x19 x20 x21 sm1 x23 (nI (kk * 5 / 250)) x26 x27 x28 cZ 1 (by decide)) (cwV 1 hts (gG_V kw_918 kw_919 kw_920 kw_5 kw_921) rfl rfl rfl (by decide +kernel) ⟨Nat.le_of_ble_eq_true rfl, Nat.le_of_ble_eq_true rfl⟩) (g_preV (C := RX11) (T := TX11) (N := 53) hP hD hK hS hA hN hZ (q0 := 2) rfl rfl [2, 3] (by decide) rfl [1] rfl) rfl rfl hl.1 rfl (lv_room (Nat.le_of_ble_eq_true rfl)) dX11_mix_35 ⟨Nat.le_of_ble_eq_true rfl, Nat.le_of_ble_eq_true rfl⟩) hP hD hK hS hA [2, 3] [0, 1] rfl rfl (by decide) (by decide) (fun r_35 w ty1 H locs hw_35 hP hD _ hS => ?_)
      rcases hw_35 with ⟨hu, hr_35⟩
      cases hu
      have hP : va_P (dC, dI) vwCl [(qa 29, .inl (cI, 1300, .inl fl1)), (qa 30, .inl (cI, 1300, .inl fr1)), (h, .inr (10, mdF qa (nI kk) x2 x3 x4 x13 x14 x15 125 x17 x18 x19 x20 x21 sm1 x23 (nI (kk * 5 / 250)) x26 x27 x28)), (qa 51, .inl (cZ, 4, .inl (fun _ => 0)))] H := hP
      have hD : va_D A [(qa 29, .inl (cI, 1300, .inl fl1)), (qa 30, .inl (cI, 1300, .inl fr1)), (h, .inr (10, mdF qa (nI kk) x2 x3 x4 x13 x14 x15 125 x17 x18 x19 x20 x21 sm1 x23 (nI (kk * 5 / 250)) x26 x27 x28)), (qa 51, .inl (cZ, 4, .inl (fun _ => 0)))] := hD
      refine g_topi (y := 0) hr_35 ?_
      refine lv_istore_n (lv' := [(3, .int 0), (2, .int 0), (1, .int (nI qq)), (0, .ref h)]) hx hb dX11_mix_38 rfl hl (by decide) rfl (fun ls hl => ?_)
      refine lv_iload_n hx hb dX11_mix_39 rfl (lv_at hl 0 rfl) ?_
      refine lv_aload_n hx hb dX11_mix_40 rfl (lv_at hl 3 rfl) ?_
      refine lv_iconst (v := 2) hx hb dX11_mix_41 (by decide) ?_
      refine g_calli (wr := [(qa 29, .inl (cI, 1300, .inl fl1)), (qa 30, .inl (cI, 1300, .inl fr1))]) (va_runV (As := [.int 2]) (rest := [.int 0]) ⟨hx, hb, hml, hown, hts⟩ (m_heard0 l dC dI H.size h qa (nI kk) x2 x3 x4 x13 x14 x15 125 x17 x18 x19 x20 x21 sm1 x23 (nI (kk * 5 / 250)) x26 x27 x28 cZ 2 (by decide)) (cwV 1 hts (gG_V kw_918 kw_919 kw_920 kw_5 kw_921) rfl rfl rfl (by decide +kernel) ⟨Nat.le_of_ble_eq_true rfl, Nat.le_of_ble_eq_true rfl⟩) (g_preV (C := RX11) (T := TX11) (N := 53) hP hD hK hS hA hN hZ (q0 := 2) rfl rfl [2, 3] (by decide) rfl [1] rfl) rfl rfl hl.1 rfl (lv_room (Nat.le_of_ble_eq_true rfl)) dX11_mix_42 ⟨Nat.le_of_ble_eq_true rfl, Nat.le_of_ble_eq_true rfl⟩) hP hD hK hS hA [2, 3] [0, 1] rfl rfl (by decide) (by decide) (fun r_42 w ty1 H locs hw_42 hP hD _ hS => ?_)
      rcases hw_42 with ⟨hu, hr_42⟩
      cases hu
      have hP : va_P (dC, dI) vwCl [(qa 29, .inl (cI, 1300, .inl fl1)), (qa 30, .inl (cI, 1300, .inl fr1)), (h, .inr (10, mdF qa (nI kk) x2 x3 x4 x13 x14 x15 125 x17 x18 x19 x20 x21 sm1 x23 (nI (kk * 5 / 250)) x26 x27 x28)), (qa 51, .inl (cZ, 4, .inl (fun _ => 0)))] H := hP
      have hD : va_D A [(qa 29, .inl (cI, 1300, .inl fl1)), (qa 30, .inl (cI, 1300, .inl fr1)), (h, .inr (10, mdF qa (nI kk) x2 x3 x4 x13 x14 x15 125 x17 x18 x19 x20 x21 sm1 x23 (nI (kk * 5 / 250)) x26 x27 x28)), (qa 51, .inl (cZ, 4, .inl (fun _ => 0)))] := hD
      refine g_topi (y := 0) hr_42 ?_
      refine lv_iadd hx hb dX11_mix_45 ?_
      refine g_topi (y := 0) (by decide) ?_
      refine lv_istore_n (lv' := [(3, .int 0), (2, .int 0), (1, .int (nI qq)), (0, .ref h)]) hx hb dX11_mix_46 rfl hl (by decide) rfl (fun ls hl => ?_)
      refine lv_iload_n hx hb dX11_mix_47 rfl (lv_at hl 1 rfl) ?_
      refine lv_aload_n hx hb dX11_mix_48 rfl (lv_at hl 3 rfl) ?_
      refine lv_iconst (v := 3) hx hb dX11_mix_49 (by decide) ?_
      refine g_calli (wr := [(qa 29, .inl (cI, 1300, .inl fl1)), (qa 30, .inl (cI, 1300, .inl fr1))]) (va_runV (As := [.int 3]) (rest := [.int 0]) ⟨hx, hb, hml, hown, hts⟩ (m_heard0 l dC dI H.size h qa (nI kk) x2 x3 x4 x13 x14 x15 125 x17 x18 x19 x20 x21 sm1 x23 (nI (kk * 5 / 250)) x26 x27 x28 cZ 3 (by decide)) (cwV 1 hts (gG_V kw_918 kw_919 kw_920 kw_5 kw_921) rfl rfl rfl (by decide +kernel) ⟨Nat.le_of_ble_eq_true rfl, Nat.le_of_ble_eq_true rfl⟩) (g_preV (C := RX11) (T := TX11) (N := 53) hP hD hK hS hA hN hZ (q0 := 2) rfl rfl [2, 3] (by decide) rfl [1] rfl) rfl rfl hl.1 rfl (lv_room (Nat.le_of_ble_eq_true rfl)) dX11_mix_50 ⟨Nat.le_of_ble_eq_true rfl, Nat.le_of_ble_eq_true rfl⟩) hP hD hK hS hA [2, 3] [0, 1] rfl rfl (by decide) (by decide) (fun r_50 w ty1 H locs hw_50 hP hD _ hS => ?_)
      rcases hw_50 with ⟨hu, hr_50⟩
      cases hu
      have hP : va_P (dC, dI) vwCl [(qa 29, .inl (cI, 1300, .inl fl1)), (qa 30, .inl (cI, 1300, .inl fr1)), (h, .inr (10, mdF qa (nI kk) x2 x3 x4 x13 x14 x15 125 x17 x18 x19 x20 x21 sm1 x23 (nI (kk * 5 / 250)) x26 x27 x28)), (qa 51, .inl (cZ, 4, .inl (fun _ => 0)))] H := hP
      have hD : va_D A [(qa 29, .inl (cI, 1300, .inl fl1)), (qa 30, .inl (cI, 1300, .inl fr1)), (h, .inr (10, mdF qa (nI kk) x2 x3 x4 x13 x14 x15 125 x17 x18 x19 x20 x21 sm1 x23 (nI (kk * 5 / 250)) x26 x27 x28)), (qa 51, .inl (cZ, 4, .inl (fun _ => 0)))] := hD
      refine g_topi (y := 0) hr_50 ?_
      refine lv_iadd hx hb dX11_mix_53 ?_
      refine g_topi (y := 0) (by decide) ?_
      refine lv_istore_n (lv' := [(2, .int 0), (3, .int 0), (1, .int (nI qq)), (0, .ref h)]) hx hb dX11_mix_54 rfl hl (by decide) rfl (fun ls hl => ?_)
      refine lv_aload_n hx hb dX11_mix_55 rfl (lv_at hl 3 rfl) ?_
      refine va_get (D := (dC, dI)) (ci := 10) (v := .ref (qa 29)) (C := RX11) (T := TX11) (N := 53) hx hb hts iwX11 hown hK hP 2 rfl rfl 29 (by decide) (hts (.fieldLink RX11 50 "ModulePlayerModel" "mixLeft" "[I") (List.mem_cons_of_mem _ kw_185)) (fun _ h9 => h9) rfl dX11_mix_56 ?_
      refine lv_iload_n hx hb dX11_mix_59 rfl (lv_at hl 2 rfl) ?_
      refine lv_iload_n hx hb dX11_mix_60 rfl (lv_at hl 0 rfl) ?_
      refine g_iast hx hb hK hP hD hS 0 0 rfl rfl qq (nI_clamp (by omega)) (vp_in_nI (by have := nI_nle' c_24 (by omega); omega) (by decide)) dX11_mix_61 (fun H locs hP hD hS => ?_)
      have hP : va_P (dC, dI) vwCl [(qa 29, .inl (cI, 1300, .inl (upd fl1 qq 0))), (qa 30, .inl (cI, 1300, .inl fr1)), (h, .inr (10, mdF qa (nI kk) x2 x3 x4 x13 x14 x15 125 x17 x18 x19 x20 x21 sm1 x23 (nI (kk * 5 / 250)) x26 x27 x28)), (qa 51, .inl (cZ, 4, .inl (fun _ => 0)))] H := hP
      have hD : va_D A [(qa 29, .inl (cI, 1300, .inl (upd fl1 qq 0))), (qa 30, .inl (cI, 1300, .inl fr1)), (h, .inr (10, mdF qa (nI kk) x2 x3 x4 x13 x14 x15 125 x17 x18 x19 x20 x21 sm1 x23 (nI (kk * 5 / 250)) x26 x27 x28)), (qa 51, .inl (cZ, 4, .inl (fun _ => 0)))] := hD
      generalize upd fl1 qq 0 = fa__61 at hP hD
      refine lv_aload_n hx hb dX11_mix_62 rfl (lv_at hl 3 rfl) ?_
      refine va_get (D := (dC, dI)) (ci := 10) (v := .ref (qa 30)) (C := RX11) (T := TX11) (N := 53) hx hb hts iwX11 hown hK hP 2 rfl rfl 30 (by decide) (hts (.fieldLink RX11 53 "ModulePlayerModel" "mixRight" "[I") (List.mem_cons_of_mem _ kw_186)) (fun _ h9 => h9) rfl dX11_mix_63 ?_
      refine lv_iload_n hx hb dX11_mix_66 rfl (lv_at hl 2 rfl) ?_
      refine lv_iload_n hx hb dX11_mix_67 rfl (lv_at hl 1 rfl) ?_
      refine g_iast hx hb hK hP hD hS 1 0 rfl rfl qq (nI_clamp (by omega)) (vp_in_nI (by have := nI_nle' c_24 (by omega); omega) (by decide)) dX11_mix_68 (fun H locs hP hD hS => ?_)
      have hP : va_P (dC, dI) vwCl [(qa 29, .inl (cI, 1300, .inl fa__61)), (qa 30, .inl (cI, 1300, .inl (upd fr1 qq 0))), (h, .inr (10, mdF qa (nI kk) x2 x3 x4 x13 x14 x15 125 x17 x18 x19 x20 x21 sm1 x23 (nI (kk * 5 / 250)) x26 x27 x28)), (qa 51, .inl (cZ, 4, .inl (fun _ => 0)))] H := hP
      have hD : va_D A [(qa 29, .inl (cI, 1300, .inl fa__61)), (qa 30, .inl (cI, 1300, .inl (upd fr1 qq 0))), (h, .inr (10, mdF qa (nI kk) x2 x3 x4 x13 x14 x15 125 x17 x18 x19 x20 x21 sm1 x23 (nI (kk * 5 / 250)) x26 x27 x28)), (qa 51, .inl (cZ, 4, .inl (fun _ => 0)))] := hD
      generalize upd fr1 qq 0 = fb__68 at hP hD
      refine lv_aload_n hx hb dX11_mix_69 rfl (lv_at hl 3 rfl) ?_
      refine lv_bipush (v := 31) hx hb dX11_mix_70 (by decide) ?_
      refine lv_aload_n hx hb dX11_mix_72 rfl (lv_at hl 3 rfl) ?_
      refine va_get (D := (dC, dI)) (ci := 10) (v := .int sm1) (C := RX11) (T := TX11) (N := 53) hx hb hts iwX11 hown hK hP 2 rfl rfl 22 (by decide) (hts (.fieldLink RX11 221 "ModulePlayerModel" "sum" "I") (List.mem_cons_of_mem _ kw_226)) (fun _ h9 => h9) rfl dX11_mix_73 ?_
      refine lv_imul hx hb dX11_mix_76 ?_
      refine lv_topi (fun m1_ em1_ => ?_)
      refine lv_iload_n hx hb dX11_mix_77 rfl (lv_at hl 0 rfl) ?_
      refine lv_iadd hx hb dX11_mix_78 ?_
      refine lv_topi (fun m2_ em2_ => ?_)
      refine va_put (D := (dC, dI)) (ci := 10) (v := .int m2_) (ty := tyX11 22) (C := RX11) (T := TX11) (N := 53) hx hb hts iwX11 tyX11 tyX11_ok nmX11 hown hK hP hD hS 2 rfl rfl 22 (by decide) (hts (.fieldLink RX11 221 "ModulePlayerModel" "sum" "I") (List.mem_cons_of_mem _ kw_226)) (fun _ h9 => h9) rfl (by decide +kernel) (rfl) (rfl) (Nat.le_of_ble_eq_true rfl) dX11_mix_79 (fun H locs hP hD hS => ?_)
      have hP : va_P (dC, dI) vwCl [(qa 29, .inl (cI, 1300, .inl fa__61)), (qa 30, .inl (cI, 1300, .inl fb__68)), (h, .inr (10, mdF qa (nI kk) x2 x3 x4 x13 x14 x15 125 x17 x18 x19 x20 x21 m2_ x23 (nI (kk * 5 / 250)) x26 x27 x28)), (qa 51, .inl (cZ, 4, .inl (fun _ => 0)))] H := hP
      have hD : va_D A [(qa 29, .inl (cI, 1300, .inl fa__61)), (qa 30, .inl (cI, 1300, .inl fb__68)), (h, .inr (10, mdF qa (nI kk) x2 x3 x4 x13 x14 x15 125 x17 x18 x19 x20 x21 m2_ x23 (nI (kk * 5 / 250)) x26 x27 x28)), (qa 51, .inl (cZ, 4, .inl (fun _ => 0)))] := hD
      refine lv_aload_n hx hb dX11_mix_82 rfl (lv_at hl 3 rfl) ?_
      refine lv_bipush (v := 31) hx hb dX11_mix_83 (by decide) ?_
      refine lv_aload_n hx hb dX11_mix_85 rfl (lv_at hl 3 rfl) ?_
      refine va_get (D := (dC, dI)) (ci := 10) (v := .int m2_) (C := RX11) (T := TX11) (N := 53) hx hb hts iwX11 hown hK hP 2 rfl rfl 22 (by decide) (hts (.fieldLink RX11 221 "ModulePlayerModel" "sum" "I") (List.mem_cons_of_mem _ kw_226)) (fun _ h9 => h9) rfl dX11_mix_86 ?_
      refine lv_imul hx hb dX11_mix_89 ?_
      refine lv_topi (fun m3_ em3_ => ?_)
      refine lv_iload_n hx hb dX11_mix_90 rfl (lv_at hl 1 rfl) ?_
      refine lv_iadd hx hb dX11_mix_91 ?_
      refine lv_topi (fun m4_ em4_ => ?_)
      refine va_put (D := (dC, dI)) (ci := 10) (v := .int m4_) (ty := tyX11 22) (C := RX11) (T := TX11) (N := 53) hx hb hts iwX11 tyX11 tyX11_ok nmX11 hown hK hP hD hS 2 rfl rfl 22 (by decide) (hts (.fieldLink RX11 221 "ModulePlayerModel" "sum" "I") (List.mem_cons_of_mem _ kw_226)) (fun _ h9 => h9) rfl (by decide +kernel) (rfl) (rfl) (Nat.le_of_ble_eq_true rfl) dX11_mix_92 (fun H locs hP hD hS => ?_)
      have hP : va_P (dC, dI) vwCl [(qa 29, .inl (cI, 1300, .inl fa__61)), (qa 30, .inl (cI, 1300, .inl fb__68)), (h, .inr (10, mdF qa (nI kk) x2 x3 x4 x13 x14 x15 125 x17 x18 x19 x20 x21 m4_ x23 (nI (kk * 5 / 250)) x26 x27 x28)), (qa 51, .inl (cZ, 4, .inl (fun _ => 0)))] H := hP
      have hD : va_D A [(qa 29, .inl (cI, 1300, .inl fa__61)), (qa 30, .inl (cI, 1300, .inl fb__68)), (h, .inr (10, mdF qa (nI kk) x2 x3 x4 x13 x14 x15 125 x17 x18 x19 x20 x21 m4_ x23 (nI (kk * 5 / 250)) x26 x27 x28)), (qa 51, .inl (cZ, 4, .inl (fun _ => 0)))] := hD
      refine lv_iinc (v := nI (qq + 1)) (lv' := [(1, .int (nI (qq + 1))), (2, .int 0), (3, .int 0), (0, .ref h)]) hx hb dX11_mix_95 hl (k := 2) rfl (nI_1 qq) (by decide) rfl (fun ls hl => ?_)
      refine lv_goto (tgt := 19) hx hb dX11_mix_98 (by decide) ?_
      exact ih19 (qq + 1) m4_ fa__61 fb__68 (by have := nI_nle' c_24 (by omega); omega) (by have := nI_nle' c_24 (by omega); omega) _ _ (hP.sub [2, 0, 1, 3] rfl) (hD.sub [2, 0, 1, 3] (by decide) rfl) hS _ (lv_sub hl [0, 3] rfl)
  exact LP19 _ 0 x22 fl fr_ (Nat.zero_le _) (Nat.lt_succ_self _) _ _ (hP.sub [0, 1, 2, 3] rfl) (hD.sub [0, 1, 2, 3] (by decide) rfl) hS _ (lv_sub hl [0, 1] rfl)

set_option maxHeartbeats 400000 in
set_option maxRecDepth 100000 in
theorem m_behind0 (l : Launch) (dC : Nat → ClassId) (dI : Nat → Nat → Nat) (sz : Nat) (h : Nat) (qa : Nat → Nat) (x0 x2 x3 x4 x15 x16 x17 x18 x19 x20 x21 x22 x23 x24 x26 x27 x28 : Int32) : Met l yX11_behind (wsG (.code yX11_behind cX11_behind 2 (some .int))) ({ frames := 0, cells := 0, slots := 0, locals := 0 }) (va_Pc [.ref h, .int 1] (gP (dC, dI) [] [(h, .inr (10, mdF qa x0 x2 x3 x4 1 0 x15 x16 x17 x18 x19 x20 x21 x22 x23 x24 x26 x27 x28))] sz)) (va_Qi (fun (r : Int32) (u : va_W × gT) => u = ([(h, .inr (10, mdF qa x0 x2 x3 x4 1 0 x15 x16 x17 x18 x19 x20 x21 x22 x23 x24 x26 x27 x28))], []) ∧ r = 0) (gB (dC, dI) (va_A [(h, .inr (10, mdF qa x0 x2 x3 x4 1 0 x15 x16 x17 x18 x19 x20 x21 x22 x23 x24 x26 x27 x28))] sz)) (va_A [(h, .inr (10, mdF qa x0 x2 x3 x4 1 0 x15 x16 x17 x18 x19 x20 x21 x22 x23 x24 x26 x27 x28))] sz)) 0 0 (va_A [(h, .inr (10, mdF qa x0 x2 x3 x4 1 0 x15 x16 x17 x18 x19 x20 x21 x22 x23 x24 x26 x27 x28))] sz) := by
  refine Met.ofW (cc := cX11_behind) (maxL := 2) (ret := (some .int)) (by decide) rfl ?_
  intro p e s m args below meth c s₁ B hml hv
  obtain ⟨rfl, hsz, hP, hK, hD0, hN, hZ⟩ := hv
  have hx := B.exec
  have hb := B.bytes
  have hr := B.returns
  have hts := atoms_spec (ws := (wsG (.code yX11_behind cX11_behind 2 (some .int)))) B.pre
  have hown : s.vm.findClass RX11 = some m.cls := findClass_of_methodNamed B.named
  have hlocks := B.notSynchronized
  subst hsz
  have hD := hD0.self (sz := s.heap.size)
  generalize hAe : va_A [(h, .inr (10, mdF qa x0 x2 x3 x4 1 0 x15 x16 x17 x18 x19 x20 x21 x22 x23 x24 x26 x27 x28))] s.heap.size = A at hD hZ ⊢
  have hA : ∀ q : Nat, s.heap.size ≤ q → A q := fun q h => by rw [← hAe]; exact Or.inr h
  have hl := lv_entry ([.ref h, .int 1]) (n := 2) (Nat.le_of_ble_eq_true rfl)
  rw [lg_entry_eq]
  generalize (lg_sl ([.ref h, .int 1]) ++ List.replicate (2 - (lg_sl ([.ref h, .int 1])).length) Slot.unset).toArray = ls at hl ⊢
  have hl : lv_has ls 2 [(0, .ref h), (1, .int 1)] := hl
  refine g_start (A := A) hP (fun H locs hP hS => ?_)
  refine lv_iload_n hx hb dX11_behind_0 rfl (lv_at hl 1 rfl) ?_
  refine lv_aload_n hx hb dX11_behind_1 rfl (lv_at hl 0 rfl) ?_
  refine va_get (D := (dC, dI)) (ci := 10) (v := .int 1) (C := RX11) (T := TX11) (N := 53) hx hb hts iwX11 hown hK hP 0 rfl rfl 13 (by decide) (hts (.fieldLink RX11 43 "ModulePlayerModel" "places" "I") (List.mem_cons_of_mem _ kw_182)) (fun _ h9 => h9) rfl dX11_behind_2 ?_
  refine lv_icmp_ge (tgt := 10) hx hb dX11_behind_5 (by decide) (fun c_5 => ?_) (fun c_5 => absurd c_5 (by decide))
  refine lv_aload_n hx hb dX11_behind_10 rfl (lv_at hl 0 rfl) ?_
  refine va_get (D := (dC, dI)) (ci := 10) (v := .int 0) (C := RX11) (T := TX11) (N := 53) hx hb hts iwX11 hown hK hP 0 rfl rfl 14 (by decide) (hts (.fieldLink RX11 172 "ModulePlayerModel" "restart" "I") (List.mem_cons_of_mem _ kw_425)) (fun _ h9 => h9) rfl dX11_behind_11 ?_
  refine lv_aload_n hx hb dX11_behind_14 rfl (lv_at hl 0 rfl) ?_
  refine va_get (D := (dC, dI)) (ci := 10) (v := .int 1) (C := RX11) (T := TX11) (N := 53) hx hb hts iwX11 hown hK hP 0 rfl rfl 13 (by decide) (hts (.fieldLink RX11 43 "ModulePlayerModel" "places" "I") (List.mem_cons_of_mem _ kw_182)) (fun _ h9 => h9) rfl dX11_behind_15 ?_
  refine lv_icmp_ge (tgt := 28) hx hb dX11_behind_18 (by decide) (fun c_18 => absurd c_18 (by decide)) (fun c_18 => ?_)
  refine lv_aload_n hx hb dX11_behind_21 rfl (lv_at hl 0 rfl) ?_
  refine va_get (D := (dC, dI)) (ci := 10) (v := .int 0) (C := RX11) (T := TX11) (N := 53) hx hb hts iwX11 hown hK hP 0 rfl rfl 14 (by decide) (hts (.fieldLink RX11 172 "ModulePlayerModel" "restart" "I") (List.mem_cons_of_mem _ kw_425)) (fun _ h9 => h9) rfl dX11_behind_22 ?_
  refine lv_goto (tgt := 29) hx hb dX11_behind_25 (by decide) ?_
  have hP9 := hP.sub (ws' := [(h, .inr (10, mdF qa x0 x2 x3 x4 1 0 x15 x16 x17 x18 x19 x20 x21 x22 x23 x24 x26 x27 x28))]) [0] rfl
  have hD9 := hD.sub (ws' := [(h, .inr (10, mdF qa x0 x2 x3 x4 1 0 x15 x16 x17 x18 x19 x20 x21 x22 x23 x24 x26 x27 x28))]) [0] (by decide) rfl
  have hK9 := hK.sub (tys' := []) [] rfl
  exact W.iret (v := 0) hx hb hr (fun t ht hW => ⟨⟨0, ([(h, .inr (10, mdF qa x0 x2 x3 x4 1 0 x15 x16 x17 x18 x19 x20 x21 x22 x23 x24 x26 x27 x28))], []), rfl, ⟨rfl, rfl⟩, by rw [ht]; exact hP9, va_K.moved hW.alike hK9, hD9⟩, hS.F ht⟩) hS.2.2 dX11_behind_29

set_option maxHeartbeats 400000 in
set_option maxRecDepth 100000 in
theorem m_goOn0 (l : Launch) (dC : Nat → ClassId) (dI : Nat → Nat → Nat) (sz : Nat) (h : Nat) (qa : Nat → Nat) (x0 x2 x3 x4 x15 x16 x19 x20 x21 x22 x23 x24 : Int32) (ro : Nat) (hro : ro < 64) : Met l yX11_goOn (wsG (.code yX11_goOn cX11_goOn 1 none)) ({ frames := 1, cells := 0, slots := 0, locals := 21 }) (va_Pc [.ref h] (gP (dC, dI) [] [(h, .inr (10, mdF qa x0 x2 x3 x4 1 0 x15 x16 0 (nI ro) x19 x20 x21 x22 x23 x24 (-1) (-1) (-1)))] sz)) (va_Qv (fun u : va_W × gT => ∃ (ro2 : Nat), u = ([(h, .inr (10, mdF qa x0 x2 x3 x4 1 0 x15 x16 0 (nI ro2) x19 x20 x21 x22 x23 x24 (-1) (-1) (-1)))], []) ∧ ro2 < 64) (gB (dC, dI) (va_A [(h, .inr (10, mdF qa x0 x2 x3 x4 1 0 x15 x16 0 (nI ro) x19 x20 x21 x22 x23 x24 (-1) (-1) (-1)))] sz)) (va_A [(h, .inr (10, mdF qa x0 x2 x3 x4 1 0 x15 x16 0 (nI ro) x19 x20 x21 x22 x23 x24 (-1) (-1) (-1)))] sz)) 0 0 (va_A [(h, .inr (10, mdF qa x0 x2 x3 x4 1 0 x15 x16 0 (nI ro) x19 x20 x21 x22 x23 x24 (-1) (-1) (-1)))] sz) := by
  refine Met.ofW (cc := cX11_goOn) (maxL := 1) (ret := none) (by decide) rfl ?_
  intro p e s m args below meth c s₁ B hml hv
  obtain ⟨rfl, hsz, hP, hK, hD0, hN, hZ⟩ := hv
  have hx := B.exec
  have hb := B.bytes
  have hr := B.returns
  have hts := atoms_spec (ws := (wsG (.code yX11_goOn cX11_goOn 1 none))) B.pre
  have hown : s.vm.findClass RX11 = some m.cls := findClass_of_methodNamed B.named
  have hlocks := B.notSynchronized
  subst hsz
  have hD := hD0.self (sz := s.heap.size)
  generalize hAe : va_A [(h, .inr (10, mdF qa x0 x2 x3 x4 1 0 x15 x16 0 (nI ro) x19 x20 x21 x22 x23 x24 (-1) (-1) (-1)))] s.heap.size = A at hD hZ ⊢
  have hA : ∀ q : Nat, s.heap.size ≤ q → A q := fun q h => by rw [← hAe]; exact Or.inr h
  have hl := lv_entry ([.ref h]) (n := 1) (Nat.le_of_ble_eq_true rfl)
  rw [lg_entry_eq]
  generalize (lg_sl ([.ref h]) ++ List.replicate (1 - (lg_sl ([.ref h])).length) Slot.unset).toArray = ls at hl ⊢
  have hl : lv_has ls 1 [(0, .ref h)] := hl
  refine g_start (A := A) hP (fun H locs hP hS => ?_)
  refine lv_aload_n hx hb dX11_goOn_0 rfl (lv_at hl 0 rfl) ?_
  refine va_get (D := (dC, dI)) (ci := 10) (v := .int (-1)) (C := RX11) (T := TX11) (N := 53) hx hb hts iwX11 hown hK hP 0 rfl rfl 28 (by decide) (hts (.fieldLink RX11 242 "ModulePlayerModel" "loopTo" "I") (List.mem_cons_of_mem _ kw_843)) (fun _ h9 => h9) rfl dX11_goOn_1 ?_
  refine lv_iconst (v := (-1)) hx hb dX11_goOn_4 (by decide) ?_
  refine lv_icmp_eq (tgt := 19) hx hb dX11_goOn_5 (by decide) (fun c_5 => ?_) (fun c_5 => absurd c_5 (by decide))
  refine lv_aload_n hx hb dX11_goOn_19 rfl (lv_at hl 0 rfl) ?_
  refine va_get (D := (dC, dI)) (ci := 10) (v := .int (-1)) (C := RX11) (T := TX11) (N := 53) hx hb hts iwX11 hown hK hP 0 rfl rfl 26 (by decide) (hts (.fieldLink RX11 245 "ModulePlayerModel" "jump" "I") (List.mem_cons_of_mem _ kw_841)) (fun _ h9 => h9) rfl dX11_goOn_20 ?_
  refine lv_iconst (v := (-1)) hx hb dX11_goOn_23 (by decide) ?_
  refine lv_icmp_ne (tgt := 35) hx hb dX11_goOn_24 (by decide) (fun c_24 => absurd c_24 (by decide)) (fun c_24 => ?_)
  refine lv_aload_n hx hb dX11_goOn_27 rfl (lv_at hl 0 rfl) ?_
  refine va_get (D := (dC, dI)) (ci := 10) (v := .int (-1)) (C := RX11) (T := TX11) (N := 53) hx hb hts iwX11 hown hK hP 0 rfl rfl 27 (by decide) (hts (.fieldLink RX11 248 "ModulePlayerModel" "stop" "I") (List.mem_cons_of_mem _ kw_842)) (fun _ h9 => h9) rfl dX11_goOn_28 ?_
  refine lv_iconst (v := (-1)) hx hb dX11_goOn_31 (by decide) ?_
  refine lv_icmp_eq (tgt := 102) hx hb dX11_goOn_32 (by decide) (fun c_32 => ?_) (fun c_32 => absurd c_32 (by decide))
  refine lv_aload_n hx hb dX11_goOn_102 rfl (lv_at hl 0 rfl) ?_
  refine va_get (D := (dC, dI)) (ci := 10) (v := .int (nI ro)) (C := RX11) (T := TX11) (N := 53) hx hb hts iwX11 hown hK hP 0 rfl rfl 18 (by decide) (hts (.fieldLink RX11 206 "ModulePlayerModel" "row" "I") (List.mem_cons_of_mem _ kw_221)) (fun _ h9 => h9) rfl dX11_goOn_103 ?_
  refine lv_bipush (v := 63) hx hb dX11_goOn_106 (by decide) ?_
  refine lv_icmp_ge (tgt := 124) hx hb dX11_goOn_108 (by decide) (fun c_108 => ?_) (fun c_108 => ?_)
  · refine lv_aload_n hx hb dX11_goOn_124 rfl (lv_at hl 0 rfl) ?_
    refine lv_aload_n hx hb dX11_goOn_125 rfl (lv_at hl 0 rfl) ?_
    refine lv_aload_n hx hb dX11_goOn_126 rfl (lv_at hl 0 rfl) ?_
    refine va_get (D := (dC, dI)) (ci := 10) (v := .int 0) (C := RX11) (T := TX11) (N := 53) hx hb hts iwX11 hown hK hP 0 rfl rfl 17 (by decide) (hts (.fieldLink RX11 203 "ModulePlayerModel" "place" "I") (List.mem_cons_of_mem _ kw_220)) (fun _ h9 => h9) rfl dX11_goOn_127 ?_
    refine lv_iconst (v := 1) hx hb dX11_goOn_130 (by decide) ?_
    refine lv_iadd hx hb dX11_goOn_131 ?_
    refine g_topi (y := 1) (by decide) ?_
    refine g_calli (wr := []) (va_runV (As := [.int 1]) (rest := [.ref h]) ⟨hx, hb, hml, hown, hts⟩ (m_behind0 l dC dI H.size h qa x0 x2 x3 x4 x15 x16 0 (nI ro) x19 x20 x21 x22 x23 x24 (-1) (-1) (-1) ) (cwV 1 hts (gG_V kw_848 kw_849 kw_850 kw_5 kw_851) rfl rfl rfl (by decide +kernel) ⟨Nat.le_of_ble_eq_true rfl, Nat.le_of_ble_eq_true rfl⟩) (g_preV (C := RX11) (T := TX11) (N := 53) hP hD hK hS hA hN hZ (q0 := 0) rfl rfl [0] (by decide) rfl [] rfl) rfl rfl hl.1 rfl (lv_room (Nat.le_of_ble_eq_true rfl)) dX11_goOn_132 ⟨Nat.le_of_ble_eq_true rfl, Nat.le_of_ble_eq_true rfl⟩) hP hD hK hS hA [0] [] rfl rfl (by decide) (by decide) (fun r_132 w ty1 H locs hw_132 hP hD _ hS => ?_)
    rcases hw_132 with ⟨hu, hr_132⟩
    cases hu
    have hP : va_P (dC, dI) vwCl [(h, .inr (10, mdF qa x0 x2 x3 x4 1 0 x15 x16 0 (nI ro) x19 x20 x21 x22 x23 x24 (-1) (-1) (-1)))] H := hP
    have hD : va_D A [(h, .inr (10, mdF qa x0 x2 x3 x4 1 0 x15 x16 0 (nI ro) x19 x20 x21 x22 x23 x24 (-1) (-1) (-1)))] := hD
    refine g_topi (y := 0) hr_132 ?_
    refine va_put (D := (dC, dI)) (ci := 10) (v := .int 0) (ty := tyX11 17) (C := RX11) (T := TX11) (N := 53) hx hb hts iwX11 tyX11 tyX11_ok nmX11 hown hK hP hD hS 0 rfl rfl 17 (by decide) (hts (.fieldLink RX11 203 "ModulePlayerModel" "place" "I") (List.mem_cons_of_mem _ kw_220)) (fun _ h9 => h9) rfl (by decide +kernel) (rfl) (rfl) (Nat.le_of_ble_eq_true rfl) dX11_goOn_135 (fun H locs hP hD hS => ?_)
    have hP : va_P (dC, dI) vwCl [(h, .inr (10, mdF qa x0 x2 x3 x4 1 0 x15 x16 0 (nI ro) x19 x20 x21 x22 x23 x24 (-1) (-1) (-1)))] H := hP
    have hD : va_D A [(h, .inr (10, mdF qa x0 x2 x3 x4 1 0 x15 x16 0 (nI ro) x19 x20 x21 x22 x23 x24 (-1) (-1) (-1)))] := hD
    refine lv_aload_n hx hb dX11_goOn_138 rfl (lv_at hl 0 rfl) ?_
    refine lv_iconst (v := 0) hx hb dX11_goOn_139 (by decide) ?_
    refine va_put (D := (dC, dI)) (ci := 10) (v := .int 0) (ty := tyX11 18) (C := RX11) (T := TX11) (N := 53) hx hb hts iwX11 tyX11 tyX11_ok nmX11 hown hK hP hD hS 0 rfl rfl 18 (by decide) (hts (.fieldLink RX11 206 "ModulePlayerModel" "row" "I") (List.mem_cons_of_mem _ kw_221)) (fun _ h9 => h9) rfl (by decide +kernel) (rfl) (rfl) (Nat.le_of_ble_eq_true rfl) dX11_goOn_140 (fun H locs hP hD hS => ?_)
    have hP : va_P (dC, dI) vwCl [(h, .inr (10, mdF qa x0 x2 x3 x4 1 0 x15 x16 0 0 x19 x20 x21 x22 x23 x24 (-1) (-1) (-1)))] H := hP
    have hD : va_D A [(h, .inr (10, mdF qa x0 x2 x3 x4 1 0 x15 x16 0 0 x19 x20 x21 x22 x23 x24 (-1) (-1) (-1)))] := hD
    have hP9 := hP.sub (ws' := [(h, .inr (10, mdF qa x0 x2 x3 x4 1 0 x15 x16 0 0 x19 x20 x21 x22 x23 x24 (-1) (-1) (-1)))]) [0] rfl
    have hD9 := hD.sub (ws' := [(h, .inr (10, mdF qa x0 x2 x3 x4 1 0 x15 x16 0 0 x19 x20 x21 x22 x23 x24 (-1) (-1) (-1)))]) [0] (by decide) rfl
    have hK9 := hK.sub (tys' := []) [] rfl
    exact W.vret hx hb hr (fun t ht hW => ⟨⟨([(h, .inr (10, mdF qa x0 x2 x3 x4 1 0 x15 x16 0 0 x19 x20 x21 x22 x23 x24 (-1) (-1) (-1)))], []), rfl, ⟨0, rfl, (by decide)⟩, by rw [ht]; exact hP9, va_K.moved hW.alike hK9, hD9⟩, hS.F ht⟩) hS.2.2 dX11_goOn_143
  refine lv_aload_n hx hb dX11_goOn_111 rfl (lv_at hl 0 rfl) ?_
  refine lv_dup hx hb dX11_goOn_112 rfl ?_
  refine va_get (D := (dC, dI)) (ci := 10) (v := .int (nI ro)) (C := RX11) (T := TX11) (N := 53) hx hb hts iwX11 hown hK hP 0 rfl rfl 18 (by decide) (hts (.fieldLink RX11 206 "ModulePlayerModel" "row" "I") (List.mem_cons_of_mem _ kw_221)) (fun _ h9 => h9) rfl dX11_goOn_113 ?_
  refine lv_iconst (v := 1) hx hb dX11_goOn_116 (by decide) ?_
  refine lv_iadd hx hb dX11_goOn_117 ?_
  refine g_topi (y := nI (ro + 1)) (nI_1 ro) ?_
  refine va_put (D := (dC, dI)) (ci := 10) (v := .int (nI (ro + 1))) (ty := tyX11 18) (C := RX11) (T := TX11) (N := 53) hx hb hts iwX11 tyX11 tyX11_ok nmX11 hown hK hP hD hS 0 rfl rfl 18 (by decide) (hts (.fieldLink RX11 206 "ModulePlayerModel" "row" "I") (List.mem_cons_of_mem _ kw_221)) (fun _ h9 => h9) rfl (by decide +kernel) (rfl) (rfl) (Nat.le_of_ble_eq_true rfl) dX11_goOn_118 (fun H locs hP hD hS => ?_)
  have hP : va_P (dC, dI) vwCl [(h, .inr (10, mdF qa x0 x2 x3 x4 1 0 x15 x16 0 (nI (ro + 1)) x19 x20 x21 x22 x23 x24 (-1) (-1) (-1)))] H := hP
  have hD : va_D A [(h, .inr (10, mdF qa x0 x2 x3 x4 1 0 x15 x16 0 (nI (ro + 1)) x19 x20 x21 x22 x23 x24 (-1) (-1) (-1)))] := hD
  refine lv_goto (tgt := 143) hx hb dX11_goOn_121 (by decide) ?_
  have hP9 := hP.sub (ws' := [(h, .inr (10, mdF qa x0 x2 x3 x4 1 0 x15 x16 0 (nI (ro + 1)) x19 x20 x21 x22 x23 x24 (-1) (-1) (-1)))]) [0] rfl
  have hD9 := hD.sub (ws' := [(h, .inr (10, mdF qa x0 x2 x3 x4 1 0 x15 x16 0 (nI (ro + 1)) x19 x20 x21 x22 x23 x24 (-1) (-1) (-1)))]) [0] (by decide) rfl
  have hK9 := hK.sub (tys' := []) [] rfl
  exact W.vret hx hb hr (fun t ht hW => ⟨⟨([(h, .inr (10, mdF qa x0 x2 x3 x4 1 0 x15 x16 0 (nI (ro + 1)) x19 x20 x21 x22 x23 x24 (-1) (-1) (-1)))], []), rfl, ⟨(ro + 1), rfl, (by have := nI_nle' (a := 63) c_108 (by omega); omega)⟩, by rw [ht]; exact hP9, va_K.moved hW.alike hK9, hD9⟩, hS.F ht⟩) hS.2.2 dX11_goOn_143

set_option maxHeartbeats 400000 in
set_option maxRecDepth 100000 in
theorem m_beginRowA (l : Launch) (dC : Nat → ClassId) (dI : Nat → Nat → Nat) (sz : Nat) (h : Nat) (qa : Nat → Nat) (x0 x2 x3 x4 x15 x16 x17 x18 x19 x20 x21 x22 x24 x26 x27 x28 : Int32) (cI cZ : ClassId) (fz : Nat → Int32) : Met l yX11_beginRow (wsG (.code yX11_beginRow cX11_beginRow 4 none)) ({ frames := 0, cells := 0, slots := 0, locals := 0 }) (va_Pc [.ref h] (gP (dC, dI) [(cI, .int), (cZ, .boolean)] [(h, .inr (10, mdF qa x0 x2 x3 x4 1 0 x15 x16 x17 x18 x19 x20 x21 x22 0 x24 x26 x27 x28)), (qa 11, .inl (cI, 2048, .inl (fun _ => 0))), (qa 12, .inl (cI, 128, .inl (fun _ => 0))), (qa 25, .inl (cZ, 8192, .inl fz)), (qa 46, .inl (cI, 4, .inl (fun _ => 0))), (qa 47, .inl (cI, 4, .inl (fun _ => 0)))] sz)) (va_Qv (fun u : va_W × gT => ∃ (ro2 : Nat) (ag2 : Int32) (fz2 : Nat → Int32), u = ([(h, .inr (10, mdF qa x0 x2 x3 x4 1 0 x15 x16 0 (nI ro2) 0 0 ag2 x22 0 x24 (-1) (-1) (-1))), (qa 11, .inl (cI, 2048, .inl (fun _ => 0))), (qa 12, .inl (cI, 128, .inl (fun _ => 0))), (qa 25, .inl (cZ, 8192, .inl fz2)), (qa 46, .inl (cI, 4, .inl (fun _ => 0))), (qa 47, .inl (cI, 4, .inl (fun _ => 0)))], []) ∧ ro2 < 64) (gB (dC, dI) (va_A [(h, .inr (10, mdF qa x0 x2 x3 x4 1 0 x15 x16 x17 x18 x19 x20 x21 x22 0 x24 x26 x27 x28)), (qa 11, .inl (cI, 2048, .inl (fun _ => 0))), (qa 12, .inl (cI, 128, .inl (fun _ => 0))), (qa 25, .inl (cZ, 8192, .inl fz)), (qa 46, .inl (cI, 4, .inl (fun _ => 0))), (qa 47, .inl (cI, 4, .inl (fun _ => 0)))] sz)) (va_A [(h, .inr (10, mdF qa x0 x2 x3 x4 1 0 x15 x16 x17 x18 x19 x20 x21 x22 0 x24 x26 x27 x28)), (qa 11, .inl (cI, 2048, .inl (fun _ => 0))), (qa 12, .inl (cI, 128, .inl (fun _ => 0))), (qa 25, .inl (cZ, 8192, .inl fz)), (qa 46, .inl (cI, 4, .inl (fun _ => 0))), (qa 47, .inl (cI, 4, .inl (fun _ => 0)))] sz)) 0 0 (va_A [(h, .inr (10, mdF qa x0 x2 x3 x4 1 0 x15 x16 x17 x18 x19 x20 x21 x22 0 x24 x26 x27 x28)), (qa 11, .inl (cI, 2048, .inl (fun _ => 0))), (qa 12, .inl (cI, 128, .inl (fun _ => 0))), (qa 25, .inl (cZ, 8192, .inl fz)), (qa 46, .inl (cI, 4, .inl (fun _ => 0))), (qa 47, .inl (cI, 4, .inl (fun _ => 0)))] sz) := by
  refine Met.ofW (cc := cX11_beginRow) (maxL := 4) (ret := none) (by decide) rfl ?_
  intro p e s m args below meth c s₁ B hml hv
  obtain ⟨rfl, hsz, hP, hK, hD0, hN, hZ⟩ := hv
  have hx := B.exec
  have hb := B.bytes
  have hr := B.returns
  have hts := atoms_spec (ws := (wsG (.code yX11_beginRow cX11_beginRow 4 none))) B.pre
  have hown : s.vm.findClass RX11 = some m.cls := findClass_of_methodNamed B.named
  have hlocks := B.notSynchronized
  subst hsz
  have hD := hD0.self (sz := s.heap.size)
  generalize hAe : va_A [(h, .inr (10, mdF qa x0 x2 x3 x4 1 0 x15 x16 x17 x18 x19 x20 x21 x22 0 x24 x26 x27 x28)), (qa 11, .inl (cI, 2048, .inl (fun _ => 0))), (qa 12, .inl (cI, 128, .inl (fun _ => 0))), (qa 25, .inl (cZ, 8192, .inl fz)), (qa 46, .inl (cI, 4, .inl (fun _ => 0))), (qa 47, .inl (cI, 4, .inl (fun _ => 0)))] s.heap.size = A at hD hZ ⊢
  have hA : ∀ q : Nat, s.heap.size ≤ q → A q := fun q h => by rw [← hAe]; exact Or.inr h
  have hl := lv_entry ([.ref h]) (n := 4) (Nat.le_of_ble_eq_true rfl)
  rw [lg_entry_eq]
  generalize (lg_sl ([.ref h]) ++ List.replicate (4 - (lg_sl ([.ref h])).length) Slot.unset).toArray = ls at hl ⊢
  have hl : lv_has ls 4 [(0, .ref h)] := hl
  refine g_start (A := A) hP (fun H locs hP hS => ?_)
  refine lv_aload_n hx hb dX11_beginRow_0 rfl (lv_at hl 0 rfl) ?_
  refine va_get (D := (dC, dI)) (ci := 10) (v := .int 0) (C := RX11) (T := TX11) (N := 53) hx hb hts iwX11 hown hK hP 0 rfl rfl 23 (by decide) (hts (.fieldLink RX11 224 "ModulePlayerModel" "ticks" "I") (List.mem_cons_of_mem _ kw_227)) (fun _ h9 => h9) rfl dX11_beginRow_1 ?_
  refine lv_if_ne (tgt := 20) hx hb dX11_beginRow_4 (by decide) (fun c_4 => absurd c_4 (by decide)) (fun c_4 => ?_)
  refine lv_aload_n hx hb dX11_beginRow_7 rfl (lv_at hl 0 rfl) ?_
  refine lv_iconst (v := 0) hx hb dX11_beginRow_8 (by decide) ?_
  refine va_put (D := (dC, dI)) (ci := 10) (v := .int 0) (ty := tyX11 17) (C := RX11) (T := TX11) (N := 53) hx hb hts iwX11 tyX11 tyX11_ok nmX11 hown hK hP hD hS 0 rfl rfl 17 (by decide) (hts (.fieldLink RX11 203 "ModulePlayerModel" "place" "I") (List.mem_cons_of_mem _ kw_220)) (fun _ h9 => h9) rfl (by decide +kernel) (rfl) (rfl) (Nat.le_of_ble_eq_true rfl) dX11_beginRow_9 (fun H locs hP hD hS => ?_)
  have hP : va_P (dC, dI) vwCl [(h, .inr (10, mdF qa x0 x2 x3 x4 1 0 x15 x16 0 x18 x19 x20 x21 x22 0 x24 x26 x27 x28)), (qa 11, .inl (cI, 2048, .inl (fun _ => 0))), (qa 12, .inl (cI, 128, .inl (fun _ => 0))), (qa 25, .inl (cZ, 8192, .inl fz)), (qa 46, .inl (cI, 4, .inl (fun _ => 0))), (qa 47, .inl (cI, 4, .inl (fun _ => 0)))] H := hP
  have hD : va_D A [(h, .inr (10, mdF qa x0 x2 x3 x4 1 0 x15 x16 0 x18 x19 x20 x21 x22 0 x24 x26 x27 x28)), (qa 11, .inl (cI, 2048, .inl (fun _ => 0))), (qa 12, .inl (cI, 128, .inl (fun _ => 0))), (qa 25, .inl (cZ, 8192, .inl fz)), (qa 46, .inl (cI, 4, .inl (fun _ => 0))), (qa 47, .inl (cI, 4, .inl (fun _ => 0)))] := hD
  refine lv_aload_n hx hb dX11_beginRow_12 rfl (lv_at hl 0 rfl) ?_
  refine lv_iconst (v := 0) hx hb dX11_beginRow_13 (by decide) ?_
  refine va_put (D := (dC, dI)) (ci := 10) (v := .int 0) (ty := tyX11 18) (C := RX11) (T := TX11) (N := 53) hx hb hts iwX11 tyX11 tyX11_ok nmX11 hown hK hP hD hS 0 rfl rfl 18 (by decide) (hts (.fieldLink RX11 206 "ModulePlayerModel" "row" "I") (List.mem_cons_of_mem _ kw_221)) (fun _ h9 => h9) rfl (by decide +kernel) (rfl) (rfl) (Nat.le_of_ble_eq_true rfl) dX11_beginRow_14 (fun H locs hP hD hS => ?_)
  have hP : va_P (dC, dI) vwCl [(h, .inr (10, mdF qa x0 x2 x3 x4 1 0 x15 x16 0 0 x19 x20 x21 x22 0 x24 x26 x27 x28)), (qa 11, .inl (cI, 2048, .inl (fun _ => 0))), (qa 12, .inl (cI, 128, .inl (fun _ => 0))), (qa 25, .inl (cZ, 8192, .inl fz)), (qa 46, .inl (cI, 4, .inl (fun _ => 0))), (qa 47, .inl (cI, 4, .inl (fun _ => 0)))] H := hP
  have hD : va_D A [(h, .inr (10, mdF qa x0 x2 x3 x4 1 0 x15 x16 0 0 x19 x20 x21 x22 0 x24 x26 x27 x28)), (qa 11, .inl (cI, 2048, .inl (fun _ => 0))), (qa 12, .inl (cI, 128, .inl (fun _ => 0))), (qa 25, .inl (cZ, 8192, .inl fz)), (qa 46, .inl (cI, 4, .inl (fun _ => 0))), (qa 47, .inl (cI, 4, .inl (fun _ => 0)))] := hD
  refine lv_goto (tgt := 24) hx hb dX11_beginRow_17 (by decide) ?_
  refine lv_bipush (v := 64) hx hb dX11_beginRow_24 (by decide) ?_
  refine lv_aload_n hx hb dX11_beginRow_26 rfl (lv_at hl 0 rfl) ?_
  refine va_get (D := (dC, dI)) (ci := 10) (v := .int 0) (C := RX11) (T := TX11) (N := 53) hx hb hts iwX11 hown hK hP 0 rfl rfl 17 (by decide) (hts (.fieldLink RX11 203 "ModulePlayerModel" "place" "I") (List.mem_cons_of_mem _ kw_220)) (fun _ h9 => h9) rfl dX11_beginRow_27 ?_
  refine lv_imul hx hb dX11_beginRow_30 ?_
  refine g_topi (y := 0) (by decide) ?_
  refine lv_aload_n hx hb dX11_beginRow_31 rfl (lv_at hl 0 rfl) ?_
  refine va_get (D := (dC, dI)) (ci := 10) (v := .int 0) (C := RX11) (T := TX11) (N := 53) hx hb hts iwX11 hown hK hP 0 rfl rfl 18 (by decide) (hts (.fieldLink RX11 206 "ModulePlayerModel" "row" "I") (List.mem_cons_of_mem _ kw_221)) (fun _ h9 => h9) rfl dX11_beginRow_32 ?_
  refine lv_iadd hx hb dX11_beginRow_35 ?_
  refine g_topi (y := 0) (by decide) ?_
  refine lv_istore_n (lv' := [(1, .int 0), (0, .ref h)]) hx hb dX11_beginRow_36 rfl hl (by decide) rfl (fun ls hl => ?_)
  refine lv_iconst (v := 0) hx hb dX11_beginRow_37 (by decide) ?_
  refine lv_istore_n (lv' := [(2, .int 0), (1, .int 0), (0, .ref h)]) hx hb dX11_beginRow_38 rfl hl (by decide) rfl (fun ls hl => ?_)
  refine lv_iconst (v := 0) hx hb dX11_beginRow_39 (by decide) ?_
  refine lv_istore_n (lv' := [(3, .int 0), (2, .int 0), (1, .int 0), (0, .ref h)]) hx hb dX11_beginRow_40 rfl hl (by decide) rfl (fun ls hl => ?_)
  refine lv_iload_n hx hb dX11_beginRow_41 rfl (lv_at hl 0 rfl) ?_
  refine lv_iconst (v := 4) hx hb dX11_beginRow_42 (by decide) ?_
  refine lv_icmp_ge (tgt := 71) hx hb dX11_beginRow_43 (by decide) (fun c_43 => absurd c_43 (by decide)) (fun c_43 => ?_)
  refine lv_iload_n hx hb dX11_beginRow_46 rfl (lv_at hl 1 rfl) ?_
  refine lv_if_ne (tgt := 59) hx hb dX11_beginRow_47 (by decide) (fun c_47 => absurd c_47 (by decide)) (fun c_47 => ?_)
  refine lv_aload_n hx hb dX11_beginRow_50 rfl (lv_at hl 3 rfl) ?_
  refine va_get (D := (dC, dI)) (ci := 10) (v := .ref (qa 46)) (C := RX11) (T := TX11) (N := 53) hx hb hts iwX11 hown hK hP 0 rfl rfl 46 (by decide) (hts (.fieldLink RX11 101 "ModulePlayerModel" "loopLeft" "[I") (List.mem_cons_of_mem _ kw_202)) (fun _ h9 => h9) rfl dX11_beginRow_51 ?_
  refine lv_iload_n hx hb dX11_beginRow_54 rfl (lv_at hl 0 rfl) ?_
  refine g_iald hx hb hK hP 4 0 rfl rfl 0 (by decide) (by unfold vp_in; decide) dX11_beginRow_55 ?_
  refine lv_if_le (tgt := 63) hx hb dX11_beginRow_56 (by decide) (fun c_56 => ?_) (fun c_56 => absurd c_56 (by decide))
  refine lv_iconst (v := 0) hx hb dX11_beginRow_63 (by decide) ?_
  refine lv_istore_n (lv' := [(2, .int 0), (3, .int 0), (1, .int 0), (0, .ref h)]) hx hb dX11_beginRow_64 rfl hl (by decide) rfl (fun ls hl => ?_)
  refine lv_iinc (v := 1) (lv' := [(3, .int 1), (2, .int 0), (1, .int 0), (0, .ref h)]) hx hb dX11_beginRow_65 hl (k := 1) rfl (by decide) (by decide) rfl (fun ls hl => ?_)
  refine lv_goto (tgt := 41) hx hb dX11_beginRow_68 (by decide) ?_
  refine lv_iload_n hx hb dX11_beginRow_41 rfl (lv_at hl 0 rfl) ?_
  refine lv_iconst (v := 4) hx hb dX11_beginRow_42 (by decide) ?_
  refine lv_icmp_ge (tgt := 71) hx hb dX11_beginRow_43 (by decide) (fun c_43_2 => absurd c_43_2 (by decide)) (fun c_43_2 => ?_)
  refine lv_iload_n hx hb dX11_beginRow_46 rfl (lv_at hl 1 rfl) ?_
  refine lv_if_ne (tgt := 59) hx hb dX11_beginRow_47 (by decide) (fun c_47_2 => absurd c_47_2 (by decide)) (fun c_47_2 => ?_)
  refine lv_aload_n hx hb dX11_beginRow_50 rfl (lv_at hl 3 rfl) ?_
  refine va_get (D := (dC, dI)) (ci := 10) (v := .ref (qa 46)) (C := RX11) (T := TX11) (N := 53) hx hb hts iwX11 hown hK hP 0 rfl rfl 46 (by decide) (hts (.fieldLink RX11 101 "ModulePlayerModel" "loopLeft" "[I") (List.mem_cons_of_mem _ kw_202)) (fun _ h9 => h9) rfl dX11_beginRow_51 ?_
  refine lv_iload_n hx hb dX11_beginRow_54 rfl (lv_at hl 0 rfl) ?_
  refine g_iald hx hb hK hP 4 0 rfl rfl 1 (by decide) (by unfold vp_in; decide) dX11_beginRow_55 ?_
  refine lv_if_le (tgt := 63) hx hb dX11_beginRow_56 (by decide) (fun c_56_2 => ?_) (fun c_56_2 => absurd c_56_2 (by decide))
  refine lv_iconst (v := 0) hx hb dX11_beginRow_63 (by decide) ?_
  refine lv_istore_n (lv' := [(2, .int 0), (3, .int 1), (1, .int 0), (0, .ref h)]) hx hb dX11_beginRow_64 rfl hl (by decide) rfl (fun ls hl => ?_)
  refine lv_iinc (v := 2) (lv' := [(3, .int 2), (2, .int 0), (1, .int 0), (0, .ref h)]) hx hb dX11_beginRow_65 hl (k := 1) rfl (by decide) (by decide) rfl (fun ls hl => ?_)
  refine lv_goto (tgt := 41) hx hb dX11_beginRow_68 (by decide) ?_
  refine lv_iload_n hx hb dX11_beginRow_41 rfl (lv_at hl 0 rfl) ?_
  refine lv_iconst (v := 4) hx hb dX11_beginRow_42 (by decide) ?_
  refine lv_icmp_ge (tgt := 71) hx hb dX11_beginRow_43 (by decide) (fun c_43_3 => absurd c_43_3 (by decide)) (fun c_43_3 => ?_)
  refine lv_iload_n hx hb dX11_beginRow_46 rfl (lv_at hl 1 rfl) ?_
  refine lv_if_ne (tgt := 59) hx hb dX11_beginRow_47 (by decide) (fun c_47_3 => absurd c_47_3 (by decide)) (fun c_47_3 => ?_)
  refine lv_aload_n hx hb dX11_beginRow_50 rfl (lv_at hl 3 rfl) ?_
  refine va_get (D := (dC, dI)) (ci := 10) (v := .ref (qa 46)) (C := RX11) (T := TX11) (N := 53) hx hb hts iwX11 hown hK hP 0 rfl rfl 46 (by decide) (hts (.fieldLink RX11 101 "ModulePlayerModel" "loopLeft" "[I") (List.mem_cons_of_mem _ kw_202)) (fun _ h9 => h9) rfl dX11_beginRow_51 ?_
  refine lv_iload_n hx hb dX11_beginRow_54 rfl (lv_at hl 0 rfl) ?_
  refine g_iald hx hb hK hP 4 0 rfl rfl 2 (by decide) (by unfold vp_in; decide) dX11_beginRow_55 ?_
  refine lv_if_le (tgt := 63) hx hb dX11_beginRow_56 (by decide) (fun c_56_3 => ?_) (fun c_56_3 => absurd c_56_3 (by decide))
  refine lv_iconst (v := 0) hx hb dX11_beginRow_63 (by decide) ?_
  refine lv_istore_n (lv' := [(2, .int 0), (3, .int 2), (1, .int 0), (0, .ref h)]) hx hb dX11_beginRow_64 rfl hl (by decide) rfl (fun ls hl => ?_)
  refine lv_iinc (v := 3) (lv' := [(3, .int 3), (2, .int 0), (1, .int 0), (0, .ref h)]) hx hb dX11_beginRow_65 hl (k := 1) rfl (by decide) (by decide) rfl (fun ls hl => ?_)
  refine lv_goto (tgt := 41) hx hb dX11_beginRow_68 (by decide) ?_
  refine lv_iload_n hx hb dX11_beginRow_41 rfl (lv_at hl 0 rfl) ?_
  refine lv_iconst (v := 4) hx hb dX11_beginRow_42 (by decide) ?_
  refine lv_icmp_ge (tgt := 71) hx hb dX11_beginRow_43 (by decide) (fun c_43_4 => absurd c_43_4 (by decide)) (fun c_43_4 => ?_)
  refine lv_iload_n hx hb dX11_beginRow_46 rfl (lv_at hl 1 rfl) ?_
  refine lv_if_ne (tgt := 59) hx hb dX11_beginRow_47 (by decide) (fun c_47_4 => absurd c_47_4 (by decide)) (fun c_47_4 => ?_)
  refine lv_aload_n hx hb dX11_beginRow_50 rfl (lv_at hl 3 rfl) ?_
  refine va_get (D := (dC, dI)) (ci := 10) (v := .ref (qa 46)) (C := RX11) (T := TX11) (N := 53) hx hb hts iwX11 hown hK hP 0 rfl rfl 46 (by decide) (hts (.fieldLink RX11 101 "ModulePlayerModel" "loopLeft" "[I") (List.mem_cons_of_mem _ kw_202)) (fun _ h9 => h9) rfl dX11_beginRow_51 ?_
  refine lv_iload_n hx hb dX11_beginRow_54 rfl (lv_at hl 0 rfl) ?_
  refine g_iald hx hb hK hP 4 0 rfl rfl 3 (by decide) (by unfold vp_in; decide) dX11_beginRow_55 ?_
  refine lv_if_le (tgt := 63) hx hb dX11_beginRow_56 (by decide) (fun c_56_4 => ?_) (fun c_56_4 => absurd c_56_4 (by decide))
  refine lv_iconst (v := 0) hx hb dX11_beginRow_63 (by decide) ?_
  refine lv_istore_n (lv' := [(2, .int 0), (3, .int 3), (1, .int 0), (0, .ref h)]) hx hb dX11_beginRow_64 rfl hl (by decide) rfl (fun ls hl => ?_)
  refine lv_iinc (v := 4) (lv' := [(3, .int 4), (2, .int 0), (1, .int 0), (0, .ref h)]) hx hb dX11_beginRow_65 hl (k := 1) rfl (by decide) (by decide) rfl (fun ls hl => ?_)
  refine lv_goto (tgt := 41) hx hb dX11_beginRow_68 (by decide) ?_
  refine lv_iload_n hx hb dX11_beginRow_41 rfl (lv_at hl 0 rfl) ?_
  refine lv_iconst (v := 4) hx hb dX11_beginRow_42 (by decide) ?_
  refine lv_icmp_ge (tgt := 71) hx hb dX11_beginRow_43 (by decide) (fun c_43_5 => ?_) (fun c_43_5 => absurd c_43_5 (by decide))
  refine lv_iload_n hx hb dX11_beginRow_71 rfl (lv_at hl 1 rfl) ?_
  refine lv_if_ne (tgt := 94) hx hb dX11_beginRow_72 (by decide) (fun c_72 => absurd c_72 (by decide)) (fun c_72 => ?_)
  refine lv_aload_n hx hb dX11_beginRow_75 rfl (lv_at hl 3 rfl) ?_
  refine va_get (D := (dC, dI)) (ci := 10) (v := .ref (qa 25)) (C := RX11) (T := TX11) (N := 53) hx hb hts iwX11 hown hK hP 0 rfl rfl 25 (by decide) (hts (.fieldLink RX11 46 "ModulePlayerModel" "begun" "[Z") (List.mem_cons_of_mem _ kw_184)) (fun _ h9 => h9) rfl dX11_beginRow_76 ?_
  refine lv_iload_n hx hb dX11_beginRow_79 rfl (lv_at hl 2 rfl) ?_
  refine g_zald hx hb hK hP 3 1 rfl rfl 0 (by decide) (by unfold vp_in; decide) dX11_beginRow_80 ?_
  refine lv_if_eq (tgt := 94) hx hb dX11_beginRow_81 (by decide) (fun c_81 => ?_) (fun c_81 => ?_)
  · refine lv_aload_n hx hb dX11_beginRow_94 rfl (lv_at hl 3 rfl) ?_
    refine va_get (D := (dC, dI)) (ci := 10) (v := .ref (qa 25)) (C := RX11) (T := TX11) (N := 53) hx hb hts iwX11 hown hK hP 0 rfl rfl 25 (by decide) (hts (.fieldLink RX11 46 "ModulePlayerModel" "begun" "[Z") (List.mem_cons_of_mem _ kw_184)) (fun _ h9 => h9) rfl dX11_beginRow_95 ?_
    refine lv_iload_n hx hb dX11_beginRow_98 rfl (lv_at hl 2 rfl) ?_
    refine lv_iconst (v := 1) hx hb dX11_beginRow_99 (by decide) ?_
    refine g_zast hx hb hK hP hD hS 3 1 rfl rfl (x' := 1) (by decide) 0 (by decide) (by unfold vp_in; decide) dX11_beginRow_100 (fun H locs hP hD hS => ?_)
    have hP : va_P (dC, dI) vwCl [(h, .inr (10, mdF qa x0 x2 x3 x4 1 0 x15 x16 0 0 x19 x20 x21 x22 0 x24 x26 x27 x28)), (qa 11, .inl (cI, 2048, .inl (fun _ => 0))), (qa 12, .inl (cI, 128, .inl (fun _ => 0))), (qa 25, .inl (cZ, 8192, .inl (upd fz 0 1))), (qa 46, .inl (cI, 4, .inl (fun _ => 0))), (qa 47, .inl (cI, 4, .inl (fun _ => 0)))] H := hP
    have hD : va_D A [(h, .inr (10, mdF qa x0 x2 x3 x4 1 0 x15 x16 0 0 x19 x20 x21 x22 0 x24 x26 x27 x28)), (qa 11, .inl (cI, 2048, .inl (fun _ => 0))), (qa 12, .inl (cI, 128, .inl (fun _ => 0))), (qa 25, .inl (cZ, 8192, .inl (upd fz 0 1))), (qa 46, .inl (cI, 4, .inl (fun _ => 0))), (qa 47, .inl (cI, 4, .inl (fun _ => 0)))] := hD
    generalize upd fz 0 1 = fg__100 at hP hD
    refine lv_aload_n hx hb dX11_beginRow_101 rfl (lv_at hl 3 rfl) ?_
    refine lv_iconst (v := 0) hx hb dX11_beginRow_102 (by decide) ?_
    refine va_put (D := (dC, dI)) (ci := 10) (v := .int 0) (ty := tyX11 19) (C := RX11) (T := TX11) (N := 53) hx hb hts iwX11 tyX11 tyX11_ok nmX11 hown hK hP hD hS 0 rfl rfl 19 (by decide) (hts (.fieldLink RX11 209 "ModulePlayerModel" "tick" "I") (List.mem_cons_of_mem _ kw_222)) (fun _ h9 => h9) rfl (by decide +kernel) (rfl) (rfl) (Nat.le_of_ble_eq_true rfl) dX11_beginRow_103 (fun H locs hP hD hS => ?_)
    have hP : va_P (dC, dI) vwCl [(h, .inr (10, mdF qa x0 x2 x3 x4 1 0 x15 x16 0 0 0 x20 x21 x22 0 x24 x26 x27 x28)), (qa 11, .inl (cI, 2048, .inl (fun _ => 0))), (qa 12, .inl (cI, 128, .inl (fun _ => 0))), (qa 25, .inl (cZ, 8192, .inl fg__100)), (qa 46, .inl (cI, 4, .inl (fun _ => 0))), (qa 47, .inl (cI, 4, .inl (fun _ => 0)))] H := hP
    have hD : va_D A [(h, .inr (10, mdF qa x0 x2 x3 x4 1 0 x15 x16 0 0 0 x20 x21 x22 0 x24 x26 x27 x28)), (qa 11, .inl (cI, 2048, .inl (fun _ => 0))), (qa 12, .inl (cI, 128, .inl (fun _ => 0))), (qa 25, .inl (cZ, 8192, .inl fg__100)), (qa 46, .inl (cI, 4, .inl (fun _ => 0))), (qa 47, .inl (cI, 4, .inl (fun _ => 0)))] := hD
    refine lv_aload_n hx hb dX11_beginRow_106 rfl (lv_at hl 3 rfl) ?_
    refine lv_iconst (v := 0) hx hb dX11_beginRow_107 (by decide) ?_
    refine va_put (D := (dC, dI)) (ci := 10) (v := .int 0) (ty := tyX11 20) (C := RX11) (T := TX11) (N := 53) hx hb hts iwX11 tyX11 tyX11_ok nmX11 hown hK hP hD hS 0 rfl rfl 20 (by decide) (hts (.fieldLink RX11 215 "ModulePlayerModel" "delay" "I") (List.mem_cons_of_mem _ kw_224)) (fun _ h9 => h9) rfl (by decide +kernel) (rfl) (rfl) (Nat.le_of_ble_eq_true rfl) dX11_beginRow_108 (fun H locs hP hD hS => ?_)
    have hP : va_P (dC, dI) vwCl [(h, .inr (10, mdF qa x0 x2 x3 x4 1 0 x15 x16 0 0 0 0 x21 x22 0 x24 x26 x27 x28)), (qa 11, .inl (cI, 2048, .inl (fun _ => 0))), (qa 12, .inl (cI, 128, .inl (fun _ => 0))), (qa 25, .inl (cZ, 8192, .inl fg__100)), (qa 46, .inl (cI, 4, .inl (fun _ => 0))), (qa 47, .inl (cI, 4, .inl (fun _ => 0)))] H := hP
    have hD : va_D A [(h, .inr (10, mdF qa x0 x2 x3 x4 1 0 x15 x16 0 0 0 0 x21 x22 0 x24 x26 x27 x28)), (qa 11, .inl (cI, 2048, .inl (fun _ => 0))), (qa 12, .inl (cI, 128, .inl (fun _ => 0))), (qa 25, .inl (cZ, 8192, .inl fg__100)), (qa 46, .inl (cI, 4, .inl (fun _ => 0))), (qa 47, .inl (cI, 4, .inl (fun _ => 0)))] := hD
    refine lv_aload_n hx hb dX11_beginRow_111 rfl (lv_at hl 3 rfl) ?_
    refine lv_iconst (v := (-1)) hx hb dX11_beginRow_112 (by decide) ?_
    refine va_put (D := (dC, dI)) (ci := 10) (v := .int (-1)) (ty := tyX11 26) (C := RX11) (T := TX11) (N := 53) hx hb hts iwX11 tyX11 tyX11_ok nmX11 hown hK hP hD hS 0 rfl rfl 26 (by decide) (hts (.fieldLink RX11 245 "ModulePlayerModel" "jump" "I") (List.mem_cons_of_mem _ kw_841)) (fun _ h9 => h9) rfl (by decide +kernel) (rfl) (rfl) (Nat.le_of_ble_eq_true rfl) dX11_beginRow_113 (fun H locs hP hD hS => ?_)
    have hP : va_P (dC, dI) vwCl [(h, .inr (10, mdF qa x0 x2 x3 x4 1 0 x15 x16 0 0 0 0 x21 x22 0 x24 (-1) x27 x28)), (qa 11, .inl (cI, 2048, .inl (fun _ => 0))), (qa 12, .inl (cI, 128, .inl (fun _ => 0))), (qa 25, .inl (cZ, 8192, .inl fg__100)), (qa 46, .inl (cI, 4, .inl (fun _ => 0))), (qa 47, .inl (cI, 4, .inl (fun _ => 0)))] H := hP
    have hD : va_D A [(h, .inr (10, mdF qa x0 x2 x3 x4 1 0 x15 x16 0 0 0 0 x21 x22 0 x24 (-1) x27 x28)), (qa 11, .inl (cI, 2048, .inl (fun _ => 0))), (qa 12, .inl (cI, 128, .inl (fun _ => 0))), (qa 25, .inl (cZ, 8192, .inl fg__100)), (qa 46, .inl (cI, 4, .inl (fun _ => 0))), (qa 47, .inl (cI, 4, .inl (fun _ => 0)))] := hD
    refine lv_aload_n hx hb dX11_beginRow_116 rfl (lv_at hl 3 rfl) ?_
    refine lv_iconst (v := (-1)) hx hb dX11_beginRow_117 (by decide) ?_
    refine va_put (D := (dC, dI)) (ci := 10) (v := .int (-1)) (ty := tyX11 27) (C := RX11) (T := TX11) (N := 53) hx hb hts iwX11 tyX11 tyX11_ok nmX11 hown hK hP hD hS 0 rfl rfl 27 (by decide) (hts (.fieldLink RX11 248 "ModulePlayerModel" "stop" "I") (List.mem_cons_of_mem _ kw_842)) (fun _ h9 => h9) rfl (by decide +kernel) (rfl) (rfl) (Nat.le_of_ble_eq_true rfl) dX11_beginRow_118 (fun H locs hP hD hS => ?_)
    have hP : va_P (dC, dI) vwCl [(h, .inr (10, mdF qa x0 x2 x3 x4 1 0 x15 x16 0 0 0 0 x21 x22 0 x24 (-1) (-1) x28)), (qa 11, .inl (cI, 2048, .inl (fun _ => 0))), (qa 12, .inl (cI, 128, .inl (fun _ => 0))), (qa 25, .inl (cZ, 8192, .inl fg__100)), (qa 46, .inl (cI, 4, .inl (fun _ => 0))), (qa 47, .inl (cI, 4, .inl (fun _ => 0)))] H := hP
    have hD : va_D A [(h, .inr (10, mdF qa x0 x2 x3 x4 1 0 x15 x16 0 0 0 0 x21 x22 0 x24 (-1) (-1) x28)), (qa 11, .inl (cI, 2048, .inl (fun _ => 0))), (qa 12, .inl (cI, 128, .inl (fun _ => 0))), (qa 25, .inl (cZ, 8192, .inl fg__100)), (qa 46, .inl (cI, 4, .inl (fun _ => 0))), (qa 47, .inl (cI, 4, .inl (fun _ => 0)))] := hD
    refine lv_aload_n hx hb dX11_beginRow_121 rfl (lv_at hl 3 rfl) ?_
    refine lv_iconst (v := (-1)) hx hb dX11_beginRow_122 (by decide) ?_
    refine va_put (D := (dC, dI)) (ci := 10) (v := .int (-1)) (ty := tyX11 28) (C := RX11) (T := TX11) (N := 53) hx hb hts iwX11 tyX11 tyX11_ok nmX11 hown hK hP hD hS 0 rfl rfl 28 (by decide) (hts (.fieldLink RX11 242 "ModulePlayerModel" "loopTo" "I") (List.mem_cons_of_mem _ kw_843)) (fun _ h9 => h9) rfl (by decide +kernel) (rfl) (rfl) (Nat.le_of_ble_eq_true rfl) dX11_beginRow_123 (fun H locs hP hD hS => ?_)
    have hP : va_P (dC, dI) vwCl [(h, .inr (10, mdF qa x0 x2 x3 x4 1 0 x15 x16 0 0 0 0 x21 x22 0 x24 (-1) (-1) (-1))), (qa 11, .inl (cI, 2048, .inl (fun _ => 0))), (qa 12, .inl (cI, 128, .inl (fun _ => 0))), (qa 25, .inl (cZ, 8192, .inl fg__100)), (qa 46, .inl (cI, 4, .inl (fun _ => 0))), (qa 47, .inl (cI, 4, .inl (fun _ => 0)))] H := hP
    have hD : va_D A [(h, .inr (10, mdF qa x0 x2 x3 x4 1 0 x15 x16 0 0 0 0 x21 x22 0 x24 (-1) (-1) (-1))), (qa 11, .inl (cI, 2048, .inl (fun _ => 0))), (qa 12, .inl (cI, 128, .inl (fun _ => 0))), (qa 25, .inl (cZ, 8192, .inl fg__100)), (qa 46, .inl (cI, 4, .inl (fun _ => 0))), (qa 47, .inl (cI, 4, .inl (fun _ => 0)))] := hD
    refine lv_iconst (v := 0) hx hb dX11_beginRow_126 (by decide) ?_
    refine lv_istore_n (lv' := [(3, .int 0), (2, .int 0), (1, .int 0), (0, .ref h)]) hx hb dX11_beginRow_127 rfl hl (by decide) rfl (fun ls hl => ?_)
    refine lv_iload_n hx hb dX11_beginRow_128 rfl (lv_at hl 0 rfl) ?_
    refine lv_iconst (v := 4) hx hb dX11_beginRow_129 (by decide) ?_
    refine lv_icmp_ge (tgt := 172) hx hb dX11_beginRow_130 (by decide) (fun c_130 => absurd c_130 (by decide)) (fun c_130 => ?_)
    refine lv_aload_n hx hb dX11_beginRow_133 rfl (lv_at hl 3 rfl) ?_
    refine va_get (D := (dC, dI)) (ci := 10) (v := .ref (qa 47)) (C := RX11) (T := TX11) (N := 53) hx hb hts iwX11 hown hK hP 0 rfl rfl 47 (by decide) (hts (.fieldLink RX11 104 "ModulePlayerModel" "cell" "[I") (List.mem_cons_of_mem _ kw_203)) (fun _ h9 => h9) rfl dX11_beginRow_134 ?_
    refine lv_iload_n hx hb dX11_beginRow_137 rfl (lv_at hl 0 rfl) ?_
    refine lv_aload_n hx hb dX11_beginRow_138 rfl (lv_at hl 3 rfl) ?_
    refine va_get (D := (dC, dI)) (ci := 10) (v := .ref (qa 11)) (C := RX11) (T := TX11) (N := 53) hx hb hts iwX11 hown hK hP 0 rfl rfl 11 (by decide) (hts (.fieldLink RX11 37 "ModulePlayerModel" "cells" "[I") (List.mem_cons_of_mem _ kw_180)) (fun _ h9 => h9) rfl dX11_beginRow_139 ?_
    refine lv_sipush (v := 256) hx hb dX11_beginRow_142 (by decide) ?_
    refine lv_aload_n hx hb dX11_beginRow_145 rfl (lv_at hl 3 rfl) ?_
    refine va_get (D := (dC, dI)) (ci := 10) (v := .ref (qa 12)) (C := RX11) (T := TX11) (N := 53) hx hb hts iwX11 hown hK hP 0 rfl rfl 12 (by decide) (hts (.fieldLink RX11 40 "ModulePlayerModel" "song" "[I") (List.mem_cons_of_mem _ kw_181)) (fun _ h9 => h9) rfl dX11_beginRow_146 ?_
    refine lv_aload_n hx hb dX11_beginRow_149 rfl (lv_at hl 3 rfl) ?_
    refine va_get (D := (dC, dI)) (ci := 10) (v := .int 0) (C := RX11) (T := TX11) (N := 53) hx hb hts iwX11 hown hK hP 0 rfl rfl 17 (by decide) (hts (.fieldLink RX11 203 "ModulePlayerModel" "place" "I") (List.mem_cons_of_mem _ kw_220)) (fun _ h9 => h9) rfl dX11_beginRow_150 ?_
    refine g_iald hx hb hK hP 2 0 rfl rfl 0 (by decide) (by unfold vp_in; decide) dX11_beginRow_153 ?_
    refine lv_imul hx hb dX11_beginRow_154 ?_
    refine g_topi (y := 0) (by decide) ?_
    refine lv_iconst (v := 4) hx hb dX11_beginRow_155 (by decide) ?_
    refine lv_aload_n hx hb dX11_beginRow_156 rfl (lv_at hl 3 rfl) ?_
    refine va_get (D := (dC, dI)) (ci := 10) (v := .int 0) (C := RX11) (T := TX11) (N := 53) hx hb hts iwX11 hown hK hP 0 rfl rfl 18 (by decide) (hts (.fieldLink RX11 206 "ModulePlayerModel" "row" "I") (List.mem_cons_of_mem _ kw_221)) (fun _ h9 => h9) rfl dX11_beginRow_157 ?_
    refine lv_imul hx hb dX11_beginRow_160 ?_
    refine g_topi (y := 0) (by decide) ?_
    refine lv_iadd hx hb dX11_beginRow_161 ?_
    refine g_topi (y := 0) (by decide) ?_
    refine lv_iload_n hx hb dX11_beginRow_162 rfl (lv_at hl 0 rfl) ?_
    refine lv_iadd hx hb dX11_beginRow_163 ?_
    refine g_topi (y := 0) (by decide) ?_
    refine g_iald hx hb hK hP 1 0 rfl rfl 0 (by decide) (by unfold vp_in; decide) dX11_beginRow_164 ?_
    refine g_iast hx hb hK hP hD hS 5 0 rfl rfl 0 (by decide) (by unfold vp_in; decide) dX11_beginRow_165 (fun H locs hP hD hS => ?_)
    have hP : va_P (dC, dI) vwCl [(h, .inr (10, mdF qa x0 x2 x3 x4 1 0 x15 x16 0 0 0 0 x21 x22 0 x24 (-1) (-1) (-1))), (qa 11, .inl (cI, 2048, .inl (fun _ => 0))), (qa 12, .inl (cI, 128, .inl (fun _ => 0))), (qa 25, .inl (cZ, 8192, .inl fg__100)), (qa 46, .inl (cI, 4, .inl (fun _ => 0))), (qa 47, .inl (cI, 4, .inl (upd (fun _ => 0) 0 0)))] H := hP
    have hD : va_D A [(h, .inr (10, mdF qa x0 x2 x3 x4 1 0 x15 x16 0 0 0 0 x21 x22 0 x24 (-1) (-1) (-1))), (qa 11, .inl (cI, 2048, .inl (fun _ => 0))), (qa 12, .inl (cI, 128, .inl (fun _ => 0))), (qa 25, .inl (cZ, 8192, .inl fg__100)), (qa 46, .inl (cI, 4, .inl (fun _ => 0))), (qa 47, .inl (cI, 4, .inl (upd (fun _ => 0) 0 0)))] := hD
    have hfe_165 : upd (fun _ => 0) 0 0 = fun _ => 0 := upd_z _
    rw [hfe_165] at hP hD
    refine lv_iinc (v := 1) (lv' := [(3, .int 1), (2, .int 0), (1, .int 0), (0, .ref h)]) hx hb dX11_beginRow_166 hl (k := 0) rfl (by decide) (by decide) rfl (fun ls hl => ?_)
    refine lv_goto (tgt := 128) hx hb dX11_beginRow_169 (by decide) ?_
    refine lv_iload_n hx hb dX11_beginRow_128 rfl (lv_at hl 0 rfl) ?_
    refine lv_iconst (v := 4) hx hb dX11_beginRow_129 (by decide) ?_
    refine lv_icmp_ge (tgt := 172) hx hb dX11_beginRow_130 (by decide) (fun c_130_2 => absurd c_130_2 (by decide)) (fun c_130_2 => ?_)
    refine lv_aload_n hx hb dX11_beginRow_133 rfl (lv_at hl 3 rfl) ?_
    refine va_get (D := (dC, dI)) (ci := 10) (v := .ref (qa 47)) (C := RX11) (T := TX11) (N := 53) hx hb hts iwX11 hown hK hP 0 rfl rfl 47 (by decide) (hts (.fieldLink RX11 104 "ModulePlayerModel" "cell" "[I") (List.mem_cons_of_mem _ kw_203)) (fun _ h9 => h9) rfl dX11_beginRow_134 ?_
    refine lv_iload_n hx hb dX11_beginRow_137 rfl (lv_at hl 0 rfl) ?_
    refine lv_aload_n hx hb dX11_beginRow_138 rfl (lv_at hl 3 rfl) ?_
    refine va_get (D := (dC, dI)) (ci := 10) (v := .ref (qa 11)) (C := RX11) (T := TX11) (N := 53) hx hb hts iwX11 hown hK hP 0 rfl rfl 11 (by decide) (hts (.fieldLink RX11 37 "ModulePlayerModel" "cells" "[I") (List.mem_cons_of_mem _ kw_180)) (fun _ h9 => h9) rfl dX11_beginRow_139 ?_
    refine lv_sipush (v := 256) hx hb dX11_beginRow_142 (by decide) ?_
    refine lv_aload_n hx hb dX11_beginRow_145 rfl (lv_at hl 3 rfl) ?_
    refine va_get (D := (dC, dI)) (ci := 10) (v := .ref (qa 12)) (C := RX11) (T := TX11) (N := 53) hx hb hts iwX11 hown hK hP 0 rfl rfl 12 (by decide) (hts (.fieldLink RX11 40 "ModulePlayerModel" "song" "[I") (List.mem_cons_of_mem _ kw_181)) (fun _ h9 => h9) rfl dX11_beginRow_146 ?_
    refine lv_aload_n hx hb dX11_beginRow_149 rfl (lv_at hl 3 rfl) ?_
    refine va_get (D := (dC, dI)) (ci := 10) (v := .int 0) (C := RX11) (T := TX11) (N := 53) hx hb hts iwX11 hown hK hP 0 rfl rfl 17 (by decide) (hts (.fieldLink RX11 203 "ModulePlayerModel" "place" "I") (List.mem_cons_of_mem _ kw_220)) (fun _ h9 => h9) rfl dX11_beginRow_150 ?_
    refine g_iald hx hb hK hP 2 0 rfl rfl 0 (by decide) (by unfold vp_in; decide) dX11_beginRow_153 ?_
    refine lv_imul hx hb dX11_beginRow_154 ?_
    refine g_topi (y := 0) (by decide) ?_
    refine lv_iconst (v := 4) hx hb dX11_beginRow_155 (by decide) ?_
    refine lv_aload_n hx hb dX11_beginRow_156 rfl (lv_at hl 3 rfl) ?_
    refine va_get (D := (dC, dI)) (ci := 10) (v := .int 0) (C := RX11) (T := TX11) (N := 53) hx hb hts iwX11 hown hK hP 0 rfl rfl 18 (by decide) (hts (.fieldLink RX11 206 "ModulePlayerModel" "row" "I") (List.mem_cons_of_mem _ kw_221)) (fun _ h9 => h9) rfl dX11_beginRow_157 ?_
    refine lv_imul hx hb dX11_beginRow_160 ?_
    refine g_topi (y := 0) (by decide) ?_
    refine lv_iadd hx hb dX11_beginRow_161 ?_
    refine g_topi (y := 0) (by decide) ?_
    refine lv_iload_n hx hb dX11_beginRow_162 rfl (lv_at hl 0 rfl) ?_
    refine lv_iadd hx hb dX11_beginRow_163 ?_
    refine g_topi (y := 1) (by decide) ?_
    refine g_iald hx hb hK hP 1 0 rfl rfl 1 (by decide) (by unfold vp_in; decide) dX11_beginRow_164 ?_
    refine g_iast hx hb hK hP hD hS 5 0 rfl rfl 1 (by decide) (by unfold vp_in; decide) dX11_beginRow_165 (fun H locs hP hD hS => ?_)
    have hP : va_P (dC, dI) vwCl [(h, .inr (10, mdF qa x0 x2 x3 x4 1 0 x15 x16 0 0 0 0 x21 x22 0 x24 (-1) (-1) (-1))), (qa 11, .inl (cI, 2048, .inl (fun _ => 0))), (qa 12, .inl (cI, 128, .inl (fun _ => 0))), (qa 25, .inl (cZ, 8192, .inl fg__100)), (qa 46, .inl (cI, 4, .inl (fun _ => 0))), (qa 47, .inl (cI, 4, .inl (upd (fun _ => 0) 1 0)))] H := hP
    have hD : va_D A [(h, .inr (10, mdF qa x0 x2 x3 x4 1 0 x15 x16 0 0 0 0 x21 x22 0 x24 (-1) (-1) (-1))), (qa 11, .inl (cI, 2048, .inl (fun _ => 0))), (qa 12, .inl (cI, 128, .inl (fun _ => 0))), (qa 25, .inl (cZ, 8192, .inl fg__100)), (qa 46, .inl (cI, 4, .inl (fun _ => 0))), (qa 47, .inl (cI, 4, .inl (upd (fun _ => 0) 1 0)))] := hD
    have hfe_165 : upd (fun _ => 0) 1 0 = fun _ => 0 := upd_z _
    rw [hfe_165] at hP hD
    refine lv_iinc (v := 2) (lv' := [(3, .int 2), (2, .int 0), (1, .int 0), (0, .ref h)]) hx hb dX11_beginRow_166 hl (k := 0) rfl (by decide) (by decide) rfl (fun ls hl => ?_)
    refine lv_goto (tgt := 128) hx hb dX11_beginRow_169 (by decide) ?_
    refine lv_iload_n hx hb dX11_beginRow_128 rfl (lv_at hl 0 rfl) ?_
    refine lv_iconst (v := 4) hx hb dX11_beginRow_129 (by decide) ?_
    refine lv_icmp_ge (tgt := 172) hx hb dX11_beginRow_130 (by decide) (fun c_130_3 => absurd c_130_3 (by decide)) (fun c_130_3 => ?_)
    refine lv_aload_n hx hb dX11_beginRow_133 rfl (lv_at hl 3 rfl) ?_
    refine va_get (D := (dC, dI)) (ci := 10) (v := .ref (qa 47)) (C := RX11) (T := TX11) (N := 53) hx hb hts iwX11 hown hK hP 0 rfl rfl 47 (by decide) (hts (.fieldLink RX11 104 "ModulePlayerModel" "cell" "[I") (List.mem_cons_of_mem _ kw_203)) (fun _ h9 => h9) rfl dX11_beginRow_134 ?_
    refine lv_iload_n hx hb dX11_beginRow_137 rfl (lv_at hl 0 rfl) ?_
    refine lv_aload_n hx hb dX11_beginRow_138 rfl (lv_at hl 3 rfl) ?_
    refine va_get (D := (dC, dI)) (ci := 10) (v := .ref (qa 11)) (C := RX11) (T := TX11) (N := 53) hx hb hts iwX11 hown hK hP 0 rfl rfl 11 (by decide) (hts (.fieldLink RX11 37 "ModulePlayerModel" "cells" "[I") (List.mem_cons_of_mem _ kw_180)) (fun _ h9 => h9) rfl dX11_beginRow_139 ?_
    refine lv_sipush (v := 256) hx hb dX11_beginRow_142 (by decide) ?_
    refine lv_aload_n hx hb dX11_beginRow_145 rfl (lv_at hl 3 rfl) ?_
    refine va_get (D := (dC, dI)) (ci := 10) (v := .ref (qa 12)) (C := RX11) (T := TX11) (N := 53) hx hb hts iwX11 hown hK hP 0 rfl rfl 12 (by decide) (hts (.fieldLink RX11 40 "ModulePlayerModel" "song" "[I") (List.mem_cons_of_mem _ kw_181)) (fun _ h9 => h9) rfl dX11_beginRow_146 ?_
    refine lv_aload_n hx hb dX11_beginRow_149 rfl (lv_at hl 3 rfl) ?_
    refine va_get (D := (dC, dI)) (ci := 10) (v := .int 0) (C := RX11) (T := TX11) (N := 53) hx hb hts iwX11 hown hK hP 0 rfl rfl 17 (by decide) (hts (.fieldLink RX11 203 "ModulePlayerModel" "place" "I") (List.mem_cons_of_mem _ kw_220)) (fun _ h9 => h9) rfl dX11_beginRow_150 ?_
    refine g_iald hx hb hK hP 2 0 rfl rfl 0 (by decide) (by unfold vp_in; decide) dX11_beginRow_153 ?_
    refine lv_imul hx hb dX11_beginRow_154 ?_
    refine g_topi (y := 0) (by decide) ?_
    refine lv_iconst (v := 4) hx hb dX11_beginRow_155 (by decide) ?_
    refine lv_aload_n hx hb dX11_beginRow_156 rfl (lv_at hl 3 rfl) ?_
    refine va_get (D := (dC, dI)) (ci := 10) (v := .int 0) (C := RX11) (T := TX11) (N := 53) hx hb hts iwX11 hown hK hP 0 rfl rfl 18 (by decide) (hts (.fieldLink RX11 206 "ModulePlayerModel" "row" "I") (List.mem_cons_of_mem _ kw_221)) (fun _ h9 => h9) rfl dX11_beginRow_157 ?_
    refine lv_imul hx hb dX11_beginRow_160 ?_
    refine g_topi (y := 0) (by decide) ?_
    refine lv_iadd hx hb dX11_beginRow_161 ?_
    refine g_topi (y := 0) (by decide) ?_
    refine lv_iload_n hx hb dX11_beginRow_162 rfl (lv_at hl 0 rfl) ?_
    refine lv_iadd hx hb dX11_beginRow_163 ?_
    refine g_topi (y := 2) (by decide) ?_
    refine g_iald hx hb hK hP 1 0 rfl rfl 2 (by decide) (by unfold vp_in; decide) dX11_beginRow_164 ?_
    refine g_iast hx hb hK hP hD hS 5 0 rfl rfl 2 (by decide) (by unfold vp_in; decide) dX11_beginRow_165 (fun H locs hP hD hS => ?_)
    have hP : va_P (dC, dI) vwCl [(h, .inr (10, mdF qa x0 x2 x3 x4 1 0 x15 x16 0 0 0 0 x21 x22 0 x24 (-1) (-1) (-1))), (qa 11, .inl (cI, 2048, .inl (fun _ => 0))), (qa 12, .inl (cI, 128, .inl (fun _ => 0))), (qa 25, .inl (cZ, 8192, .inl fg__100)), (qa 46, .inl (cI, 4, .inl (fun _ => 0))), (qa 47, .inl (cI, 4, .inl (upd (fun _ => 0) 2 0)))] H := hP
    have hD : va_D A [(h, .inr (10, mdF qa x0 x2 x3 x4 1 0 x15 x16 0 0 0 0 x21 x22 0 x24 (-1) (-1) (-1))), (qa 11, .inl (cI, 2048, .inl (fun _ => 0))), (qa 12, .inl (cI, 128, .inl (fun _ => 0))), (qa 25, .inl (cZ, 8192, .inl fg__100)), (qa 46, .inl (cI, 4, .inl (fun _ => 0))), (qa 47, .inl (cI, 4, .inl (upd (fun _ => 0) 2 0)))] := hD
    have hfe_165 : upd (fun _ => 0) 2 0 = fun _ => 0 := upd_z _
    rw [hfe_165] at hP hD
    refine lv_iinc (v := 3) (lv' := [(3, .int 3), (2, .int 0), (1, .int 0), (0, .ref h)]) hx hb dX11_beginRow_166 hl (k := 0) rfl (by decide) (by decide) rfl (fun ls hl => ?_)
    refine lv_goto (tgt := 128) hx hb dX11_beginRow_169 (by decide) ?_
    refine lv_iload_n hx hb dX11_beginRow_128 rfl (lv_at hl 0 rfl) ?_
    refine lv_iconst (v := 4) hx hb dX11_beginRow_129 (by decide) ?_
    refine lv_icmp_ge (tgt := 172) hx hb dX11_beginRow_130 (by decide) (fun c_130_4 => absurd c_130_4 (by decide)) (fun c_130_4 => ?_)
    refine lv_aload_n hx hb dX11_beginRow_133 rfl (lv_at hl 3 rfl) ?_
    refine va_get (D := (dC, dI)) (ci := 10) (v := .ref (qa 47)) (C := RX11) (T := TX11) (N := 53) hx hb hts iwX11 hown hK hP 0 rfl rfl 47 (by decide) (hts (.fieldLink RX11 104 "ModulePlayerModel" "cell" "[I") (List.mem_cons_of_mem _ kw_203)) (fun _ h9 => h9) rfl dX11_beginRow_134 ?_
    refine lv_iload_n hx hb dX11_beginRow_137 rfl (lv_at hl 0 rfl) ?_
    refine lv_aload_n hx hb dX11_beginRow_138 rfl (lv_at hl 3 rfl) ?_
    refine va_get (D := (dC, dI)) (ci := 10) (v := .ref (qa 11)) (C := RX11) (T := TX11) (N := 53) hx hb hts iwX11 hown hK hP 0 rfl rfl 11 (by decide) (hts (.fieldLink RX11 37 "ModulePlayerModel" "cells" "[I") (List.mem_cons_of_mem _ kw_180)) (fun _ h9 => h9) rfl dX11_beginRow_139 ?_
    refine lv_sipush (v := 256) hx hb dX11_beginRow_142 (by decide) ?_
    refine lv_aload_n hx hb dX11_beginRow_145 rfl (lv_at hl 3 rfl) ?_
    refine va_get (D := (dC, dI)) (ci := 10) (v := .ref (qa 12)) (C := RX11) (T := TX11) (N := 53) hx hb hts iwX11 hown hK hP 0 rfl rfl 12 (by decide) (hts (.fieldLink RX11 40 "ModulePlayerModel" "song" "[I") (List.mem_cons_of_mem _ kw_181)) (fun _ h9 => h9) rfl dX11_beginRow_146 ?_
    refine lv_aload_n hx hb dX11_beginRow_149 rfl (lv_at hl 3 rfl) ?_
    refine va_get (D := (dC, dI)) (ci := 10) (v := .int 0) (C := RX11) (T := TX11) (N := 53) hx hb hts iwX11 hown hK hP 0 rfl rfl 17 (by decide) (hts (.fieldLink RX11 203 "ModulePlayerModel" "place" "I") (List.mem_cons_of_mem _ kw_220)) (fun _ h9 => h9) rfl dX11_beginRow_150 ?_
    refine g_iald hx hb hK hP 2 0 rfl rfl 0 (by decide) (by unfold vp_in; decide) dX11_beginRow_153 ?_
    refine lv_imul hx hb dX11_beginRow_154 ?_
    refine g_topi (y := 0) (by decide) ?_
    refine lv_iconst (v := 4) hx hb dX11_beginRow_155 (by decide) ?_
    refine lv_aload_n hx hb dX11_beginRow_156 rfl (lv_at hl 3 rfl) ?_
    refine va_get (D := (dC, dI)) (ci := 10) (v := .int 0) (C := RX11) (T := TX11) (N := 53) hx hb hts iwX11 hown hK hP 0 rfl rfl 18 (by decide) (hts (.fieldLink RX11 206 "ModulePlayerModel" "row" "I") (List.mem_cons_of_mem _ kw_221)) (fun _ h9 => h9) rfl dX11_beginRow_157 ?_
    refine lv_imul hx hb dX11_beginRow_160 ?_
    refine g_topi (y := 0) (by decide) ?_
    refine lv_iadd hx hb dX11_beginRow_161 ?_
    refine g_topi (y := 0) (by decide) ?_
    refine lv_iload_n hx hb dX11_beginRow_162 rfl (lv_at hl 0 rfl) ?_
    refine lv_iadd hx hb dX11_beginRow_163 ?_
    refine g_topi (y := 3) (by decide) ?_
    refine g_iald hx hb hK hP 1 0 rfl rfl 3 (by decide) (by unfold vp_in; decide) dX11_beginRow_164 ?_
    refine g_iast hx hb hK hP hD hS 5 0 rfl rfl 3 (by decide) (by unfold vp_in; decide) dX11_beginRow_165 (fun H locs hP hD hS => ?_)
    have hP : va_P (dC, dI) vwCl [(h, .inr (10, mdF qa x0 x2 x3 x4 1 0 x15 x16 0 0 0 0 x21 x22 0 x24 (-1) (-1) (-1))), (qa 11, .inl (cI, 2048, .inl (fun _ => 0))), (qa 12, .inl (cI, 128, .inl (fun _ => 0))), (qa 25, .inl (cZ, 8192, .inl fg__100)), (qa 46, .inl (cI, 4, .inl (fun _ => 0))), (qa 47, .inl (cI, 4, .inl (upd (fun _ => 0) 3 0)))] H := hP
    have hD : va_D A [(h, .inr (10, mdF qa x0 x2 x3 x4 1 0 x15 x16 0 0 0 0 x21 x22 0 x24 (-1) (-1) (-1))), (qa 11, .inl (cI, 2048, .inl (fun _ => 0))), (qa 12, .inl (cI, 128, .inl (fun _ => 0))), (qa 25, .inl (cZ, 8192, .inl fg__100)), (qa 46, .inl (cI, 4, .inl (fun _ => 0))), (qa 47, .inl (cI, 4, .inl (upd (fun _ => 0) 3 0)))] := hD
    have hfe_165 : upd (fun _ => 0) 3 0 = fun _ => 0 := upd_z _
    rw [hfe_165] at hP hD
    refine lv_iinc (v := 4) (lv' := [(3, .int 4), (2, .int 0), (1, .int 0), (0, .ref h)]) hx hb dX11_beginRow_166 hl (k := 0) rfl (by decide) (by decide) rfl (fun ls hl => ?_)
    refine lv_goto (tgt := 128) hx hb dX11_beginRow_169 (by decide) ?_
    refine lv_iload_n hx hb dX11_beginRow_128 rfl (lv_at hl 0 rfl) ?_
    refine lv_iconst (v := 4) hx hb dX11_beginRow_129 (by decide) ?_
    refine lv_icmp_ge (tgt := 172) hx hb dX11_beginRow_130 (by decide) (fun c_130_5 => ?_) (fun c_130_5 => absurd c_130_5 (by decide))
    have hP9 := hP.sub (ws' := [(h, .inr (10, mdF qa x0 x2 x3 x4 1 0 x15 x16 0 0 0 0 x21 x22 0 x24 (-1) (-1) (-1))), (qa 11, .inl (cI, 2048, .inl (fun _ => 0))), (qa 12, .inl (cI, 128, .inl (fun _ => 0))), (qa 25, .inl (cZ, 8192, .inl fg__100)), (qa 46, .inl (cI, 4, .inl (fun _ => 0))), (qa 47, .inl (cI, 4, .inl (fun _ => 0)))]) [0, 1, 2, 3, 4, 5] rfl
    have hD9 := hD.sub (ws' := [(h, .inr (10, mdF qa x0 x2 x3 x4 1 0 x15 x16 0 0 0 0 x21 x22 0 x24 (-1) (-1) (-1))), (qa 11, .inl (cI, 2048, .inl (fun _ => 0))), (qa 12, .inl (cI, 128, .inl (fun _ => 0))), (qa 25, .inl (cZ, 8192, .inl fg__100)), (qa 46, .inl (cI, 4, .inl (fun _ => 0))), (qa 47, .inl (cI, 4, .inl (fun _ => 0)))]) [0, 1, 2, 3, 4, 5] (by decide) rfl
    have hK9 := hK.sub (tys' := []) [] rfl
    exact W.vret hx hb hr (fun t ht hW => ⟨⟨([(h, .inr (10, mdF qa x0 x2 x3 x4 1 0 x15 x16 0 0 0 0 x21 x22 0 x24 (-1) (-1) (-1))), (qa 11, .inl (cI, 2048, .inl (fun _ => 0))), (qa 12, .inl (cI, 128, .inl (fun _ => 0))), (qa 25, .inl (cZ, 8192, .inl fg__100)), (qa 46, .inl (cI, 4, .inl (fun _ => 0))), (qa 47, .inl (cI, 4, .inl (fun _ => 0)))], []), rfl, ⟨0, x21, fg__100, rfl, (by decide)⟩, by rw [ht]; exact hP9, va_K.moved hW.alike hK9, hD9⟩, hS.F ht⟩) hS.2.2 dX11_beginRow_172
  refine lv_aload_n hx hb dX11_beginRow_84 rfl (lv_at hl 3 rfl) ?_
  refine lv_dup hx hb dX11_beginRow_85 rfl ?_
  refine va_get (D := (dC, dI)) (ci := 10) (v := .int x21) (C := RX11) (T := TX11) (N := 53) hx hb hts iwX11 hown hK hP 0 rfl rfl 21 (by decide) (hts (.fieldLink RX11 218 "ModulePlayerModel" "again" "I") (List.mem_cons_of_mem _ kw_225)) (fun _ h9 => h9) rfl dX11_beginRow_86 ?_
  refine lv_iconst (v := 1) hx hb dX11_beginRow_89 (by decide) ?_
  refine lv_iadd hx hb dX11_beginRow_90 ?_
  refine lv_topi (fun ag_ eag_ => ?_)
  refine va_put (D := (dC, dI)) (ci := 10) (v := .int ag_) (ty := tyX11 21) (C := RX11) (T := TX11) (N := 53) hx hb hts iwX11 tyX11 tyX11_ok nmX11 hown hK hP hD hS 0 rfl rfl 21 (by decide) (hts (.fieldLink RX11 218 "ModulePlayerModel" "again" "I") (List.mem_cons_of_mem _ kw_225)) (fun _ h9 => h9) rfl (by decide +kernel) (rfl) (rfl) (Nat.le_of_ble_eq_true rfl) dX11_beginRow_91 (fun H locs hP hD hS => ?_)
  have hP : va_P (dC, dI) vwCl [(h, .inr (10, mdF qa x0 x2 x3 x4 1 0 x15 x16 0 0 x19 x20 ag_ x22 0 x24 x26 x27 x28)), (qa 11, .inl (cI, 2048, .inl (fun _ => 0))), (qa 12, .inl (cI, 128, .inl (fun _ => 0))), (qa 25, .inl (cZ, 8192, .inl fz)), (qa 46, .inl (cI, 4, .inl (fun _ => 0))), (qa 47, .inl (cI, 4, .inl (fun _ => 0)))] H := hP
  have hD : va_D A [(h, .inr (10, mdF qa x0 x2 x3 x4 1 0 x15 x16 0 0 x19 x20 ag_ x22 0 x24 x26 x27 x28)), (qa 11, .inl (cI, 2048, .inl (fun _ => 0))), (qa 12, .inl (cI, 128, .inl (fun _ => 0))), (qa 25, .inl (cZ, 8192, .inl fz)), (qa 46, .inl (cI, 4, .inl (fun _ => 0))), (qa 47, .inl (cI, 4, .inl (fun _ => 0)))] := hD
  refine lv_aload_n hx hb dX11_beginRow_94 rfl (lv_at hl 3 rfl) ?_
  refine va_get (D := (dC, dI)) (ci := 10) (v := .ref (qa 25)) (C := RX11) (T := TX11) (N := 53) hx hb hts iwX11 hown hK hP 0 rfl rfl 25 (by decide) (hts (.fieldLink RX11 46 "ModulePlayerModel" "begun" "[Z") (List.mem_cons_of_mem _ kw_184)) (fun _ h9 => h9) rfl dX11_beginRow_95 ?_
  refine lv_iload_n hx hb dX11_beginRow_98 rfl (lv_at hl 2 rfl) ?_
  refine lv_iconst (v := 1) hx hb dX11_beginRow_99 (by decide) ?_
  refine g_zast hx hb hK hP hD hS 3 1 rfl rfl (x' := 1) (by decide) 0 (by decide) (by unfold vp_in; decide) dX11_beginRow_100 (fun H locs hP hD hS => ?_)
  have hP : va_P (dC, dI) vwCl [(h, .inr (10, mdF qa x0 x2 x3 x4 1 0 x15 x16 0 0 x19 x20 ag_ x22 0 x24 x26 x27 x28)), (qa 11, .inl (cI, 2048, .inl (fun _ => 0))), (qa 12, .inl (cI, 128, .inl (fun _ => 0))), (qa 25, .inl (cZ, 8192, .inl (upd fz 0 1))), (qa 46, .inl (cI, 4, .inl (fun _ => 0))), (qa 47, .inl (cI, 4, .inl (fun _ => 0)))] H := hP
  have hD : va_D A [(h, .inr (10, mdF qa x0 x2 x3 x4 1 0 x15 x16 0 0 x19 x20 ag_ x22 0 x24 x26 x27 x28)), (qa 11, .inl (cI, 2048, .inl (fun _ => 0))), (qa 12, .inl (cI, 128, .inl (fun _ => 0))), (qa 25, .inl (cZ, 8192, .inl (upd fz 0 1))), (qa 46, .inl (cI, 4, .inl (fun _ => 0))), (qa 47, .inl (cI, 4, .inl (fun _ => 0)))] := hD
  generalize upd fz 0 1 = fg__100 at hP hD
  refine lv_aload_n hx hb dX11_beginRow_101 rfl (lv_at hl 3 rfl) ?_
  refine lv_iconst (v := 0) hx hb dX11_beginRow_102 (by decide) ?_
  refine va_put (D := (dC, dI)) (ci := 10) (v := .int 0) (ty := tyX11 19) (C := RX11) (T := TX11) (N := 53) hx hb hts iwX11 tyX11 tyX11_ok nmX11 hown hK hP hD hS 0 rfl rfl 19 (by decide) (hts (.fieldLink RX11 209 "ModulePlayerModel" "tick" "I") (List.mem_cons_of_mem _ kw_222)) (fun _ h9 => h9) rfl (by decide +kernel) (rfl) (rfl) (Nat.le_of_ble_eq_true rfl) dX11_beginRow_103 (fun H locs hP hD hS => ?_)
  have hP : va_P (dC, dI) vwCl [(h, .inr (10, mdF qa x0 x2 x3 x4 1 0 x15 x16 0 0 0 x20 ag_ x22 0 x24 x26 x27 x28)), (qa 11, .inl (cI, 2048, .inl (fun _ => 0))), (qa 12, .inl (cI, 128, .inl (fun _ => 0))), (qa 25, .inl (cZ, 8192, .inl fg__100)), (qa 46, .inl (cI, 4, .inl (fun _ => 0))), (qa 47, .inl (cI, 4, .inl (fun _ => 0)))] H := hP
  have hD : va_D A [(h, .inr (10, mdF qa x0 x2 x3 x4 1 0 x15 x16 0 0 0 x20 ag_ x22 0 x24 x26 x27 x28)), (qa 11, .inl (cI, 2048, .inl (fun _ => 0))), (qa 12, .inl (cI, 128, .inl (fun _ => 0))), (qa 25, .inl (cZ, 8192, .inl fg__100)), (qa 46, .inl (cI, 4, .inl (fun _ => 0))), (qa 47, .inl (cI, 4, .inl (fun _ => 0)))] := hD
  refine lv_aload_n hx hb dX11_beginRow_106 rfl (lv_at hl 3 rfl) ?_
  refine lv_iconst (v := 0) hx hb dX11_beginRow_107 (by decide) ?_
  refine va_put (D := (dC, dI)) (ci := 10) (v := .int 0) (ty := tyX11 20) (C := RX11) (T := TX11) (N := 53) hx hb hts iwX11 tyX11 tyX11_ok nmX11 hown hK hP hD hS 0 rfl rfl 20 (by decide) (hts (.fieldLink RX11 215 "ModulePlayerModel" "delay" "I") (List.mem_cons_of_mem _ kw_224)) (fun _ h9 => h9) rfl (by decide +kernel) (rfl) (rfl) (Nat.le_of_ble_eq_true rfl) dX11_beginRow_108 (fun H locs hP hD hS => ?_)
  have hP : va_P (dC, dI) vwCl [(h, .inr (10, mdF qa x0 x2 x3 x4 1 0 x15 x16 0 0 0 0 ag_ x22 0 x24 x26 x27 x28)), (qa 11, .inl (cI, 2048, .inl (fun _ => 0))), (qa 12, .inl (cI, 128, .inl (fun _ => 0))), (qa 25, .inl (cZ, 8192, .inl fg__100)), (qa 46, .inl (cI, 4, .inl (fun _ => 0))), (qa 47, .inl (cI, 4, .inl (fun _ => 0)))] H := hP
  have hD : va_D A [(h, .inr (10, mdF qa x0 x2 x3 x4 1 0 x15 x16 0 0 0 0 ag_ x22 0 x24 x26 x27 x28)), (qa 11, .inl (cI, 2048, .inl (fun _ => 0))), (qa 12, .inl (cI, 128, .inl (fun _ => 0))), (qa 25, .inl (cZ, 8192, .inl fg__100)), (qa 46, .inl (cI, 4, .inl (fun _ => 0))), (qa 47, .inl (cI, 4, .inl (fun _ => 0)))] := hD
  refine lv_aload_n hx hb dX11_beginRow_111 rfl (lv_at hl 3 rfl) ?_
  refine lv_iconst (v := (-1)) hx hb dX11_beginRow_112 (by decide) ?_
  refine va_put (D := (dC, dI)) (ci := 10) (v := .int (-1)) (ty := tyX11 26) (C := RX11) (T := TX11) (N := 53) hx hb hts iwX11 tyX11 tyX11_ok nmX11 hown hK hP hD hS 0 rfl rfl 26 (by decide) (hts (.fieldLink RX11 245 "ModulePlayerModel" "jump" "I") (List.mem_cons_of_mem _ kw_841)) (fun _ h9 => h9) rfl (by decide +kernel) (rfl) (rfl) (Nat.le_of_ble_eq_true rfl) dX11_beginRow_113 (fun H locs hP hD hS => ?_)
  have hP : va_P (dC, dI) vwCl [(h, .inr (10, mdF qa x0 x2 x3 x4 1 0 x15 x16 0 0 0 0 ag_ x22 0 x24 (-1) x27 x28)), (qa 11, .inl (cI, 2048, .inl (fun _ => 0))), (qa 12, .inl (cI, 128, .inl (fun _ => 0))), (qa 25, .inl (cZ, 8192, .inl fg__100)), (qa 46, .inl (cI, 4, .inl (fun _ => 0))), (qa 47, .inl (cI, 4, .inl (fun _ => 0)))] H := hP
  have hD : va_D A [(h, .inr (10, mdF qa x0 x2 x3 x4 1 0 x15 x16 0 0 0 0 ag_ x22 0 x24 (-1) x27 x28)), (qa 11, .inl (cI, 2048, .inl (fun _ => 0))), (qa 12, .inl (cI, 128, .inl (fun _ => 0))), (qa 25, .inl (cZ, 8192, .inl fg__100)), (qa 46, .inl (cI, 4, .inl (fun _ => 0))), (qa 47, .inl (cI, 4, .inl (fun _ => 0)))] := hD
  refine lv_aload_n hx hb dX11_beginRow_116 rfl (lv_at hl 3 rfl) ?_
  refine lv_iconst (v := (-1)) hx hb dX11_beginRow_117 (by decide) ?_
  refine va_put (D := (dC, dI)) (ci := 10) (v := .int (-1)) (ty := tyX11 27) (C := RX11) (T := TX11) (N := 53) hx hb hts iwX11 tyX11 tyX11_ok nmX11 hown hK hP hD hS 0 rfl rfl 27 (by decide) (hts (.fieldLink RX11 248 "ModulePlayerModel" "stop" "I") (List.mem_cons_of_mem _ kw_842)) (fun _ h9 => h9) rfl (by decide +kernel) (rfl) (rfl) (Nat.le_of_ble_eq_true rfl) dX11_beginRow_118 (fun H locs hP hD hS => ?_)
  have hP : va_P (dC, dI) vwCl [(h, .inr (10, mdF qa x0 x2 x3 x4 1 0 x15 x16 0 0 0 0 ag_ x22 0 x24 (-1) (-1) x28)), (qa 11, .inl (cI, 2048, .inl (fun _ => 0))), (qa 12, .inl (cI, 128, .inl (fun _ => 0))), (qa 25, .inl (cZ, 8192, .inl fg__100)), (qa 46, .inl (cI, 4, .inl (fun _ => 0))), (qa 47, .inl (cI, 4, .inl (fun _ => 0)))] H := hP
  have hD : va_D A [(h, .inr (10, mdF qa x0 x2 x3 x4 1 0 x15 x16 0 0 0 0 ag_ x22 0 x24 (-1) (-1) x28)), (qa 11, .inl (cI, 2048, .inl (fun _ => 0))), (qa 12, .inl (cI, 128, .inl (fun _ => 0))), (qa 25, .inl (cZ, 8192, .inl fg__100)), (qa 46, .inl (cI, 4, .inl (fun _ => 0))), (qa 47, .inl (cI, 4, .inl (fun _ => 0)))] := hD
  refine lv_aload_n hx hb dX11_beginRow_121 rfl (lv_at hl 3 rfl) ?_
  refine lv_iconst (v := (-1)) hx hb dX11_beginRow_122 (by decide) ?_
  refine va_put (D := (dC, dI)) (ci := 10) (v := .int (-1)) (ty := tyX11 28) (C := RX11) (T := TX11) (N := 53) hx hb hts iwX11 tyX11 tyX11_ok nmX11 hown hK hP hD hS 0 rfl rfl 28 (by decide) (hts (.fieldLink RX11 242 "ModulePlayerModel" "loopTo" "I") (List.mem_cons_of_mem _ kw_843)) (fun _ h9 => h9) rfl (by decide +kernel) (rfl) (rfl) (Nat.le_of_ble_eq_true rfl) dX11_beginRow_123 (fun H locs hP hD hS => ?_)
  have hP : va_P (dC, dI) vwCl [(h, .inr (10, mdF qa x0 x2 x3 x4 1 0 x15 x16 0 0 0 0 ag_ x22 0 x24 (-1) (-1) (-1))), (qa 11, .inl (cI, 2048, .inl (fun _ => 0))), (qa 12, .inl (cI, 128, .inl (fun _ => 0))), (qa 25, .inl (cZ, 8192, .inl fg__100)), (qa 46, .inl (cI, 4, .inl (fun _ => 0))), (qa 47, .inl (cI, 4, .inl (fun _ => 0)))] H := hP
  have hD : va_D A [(h, .inr (10, mdF qa x0 x2 x3 x4 1 0 x15 x16 0 0 0 0 ag_ x22 0 x24 (-1) (-1) (-1))), (qa 11, .inl (cI, 2048, .inl (fun _ => 0))), (qa 12, .inl (cI, 128, .inl (fun _ => 0))), (qa 25, .inl (cZ, 8192, .inl fg__100)), (qa 46, .inl (cI, 4, .inl (fun _ => 0))), (qa 47, .inl (cI, 4, .inl (fun _ => 0)))] := hD
  refine lv_iconst (v := 0) hx hb dX11_beginRow_126 (by decide) ?_
  refine lv_istore_n (lv' := [(3, .int 0), (2, .int 0), (1, .int 0), (0, .ref h)]) hx hb dX11_beginRow_127 rfl hl (by decide) rfl (fun ls hl => ?_)
  refine lv_iload_n hx hb dX11_beginRow_128 rfl (lv_at hl 0 rfl) ?_
  refine lv_iconst (v := 4) hx hb dX11_beginRow_129 (by decide) ?_
  refine lv_icmp_ge (tgt := 172) hx hb dX11_beginRow_130 (by decide) (fun c_130 => absurd c_130 (by decide)) (fun c_130 => ?_)
  refine lv_aload_n hx hb dX11_beginRow_133 rfl (lv_at hl 3 rfl) ?_
  refine va_get (D := (dC, dI)) (ci := 10) (v := .ref (qa 47)) (C := RX11) (T := TX11) (N := 53) hx hb hts iwX11 hown hK hP 0 rfl rfl 47 (by decide) (hts (.fieldLink RX11 104 "ModulePlayerModel" "cell" "[I") (List.mem_cons_of_mem _ kw_203)) (fun _ h9 => h9) rfl dX11_beginRow_134 ?_
  refine lv_iload_n hx hb dX11_beginRow_137 rfl (lv_at hl 0 rfl) ?_
  refine lv_aload_n hx hb dX11_beginRow_138 rfl (lv_at hl 3 rfl) ?_
  refine va_get (D := (dC, dI)) (ci := 10) (v := .ref (qa 11)) (C := RX11) (T := TX11) (N := 53) hx hb hts iwX11 hown hK hP 0 rfl rfl 11 (by decide) (hts (.fieldLink RX11 37 "ModulePlayerModel" "cells" "[I") (List.mem_cons_of_mem _ kw_180)) (fun _ h9 => h9) rfl dX11_beginRow_139 ?_
  refine lv_sipush (v := 256) hx hb dX11_beginRow_142 (by decide) ?_
  refine lv_aload_n hx hb dX11_beginRow_145 rfl (lv_at hl 3 rfl) ?_
  refine va_get (D := (dC, dI)) (ci := 10) (v := .ref (qa 12)) (C := RX11) (T := TX11) (N := 53) hx hb hts iwX11 hown hK hP 0 rfl rfl 12 (by decide) (hts (.fieldLink RX11 40 "ModulePlayerModel" "song" "[I") (List.mem_cons_of_mem _ kw_181)) (fun _ h9 => h9) rfl dX11_beginRow_146 ?_
  refine lv_aload_n hx hb dX11_beginRow_149 rfl (lv_at hl 3 rfl) ?_
  refine va_get (D := (dC, dI)) (ci := 10) (v := .int 0) (C := RX11) (T := TX11) (N := 53) hx hb hts iwX11 hown hK hP 0 rfl rfl 17 (by decide) (hts (.fieldLink RX11 203 "ModulePlayerModel" "place" "I") (List.mem_cons_of_mem _ kw_220)) (fun _ h9 => h9) rfl dX11_beginRow_150 ?_
  refine g_iald hx hb hK hP 2 0 rfl rfl 0 (by decide) (by unfold vp_in; decide) dX11_beginRow_153 ?_
  refine lv_imul hx hb dX11_beginRow_154 ?_
  refine g_topi (y := 0) (by decide) ?_
  refine lv_iconst (v := 4) hx hb dX11_beginRow_155 (by decide) ?_
  refine lv_aload_n hx hb dX11_beginRow_156 rfl (lv_at hl 3 rfl) ?_
  refine va_get (D := (dC, dI)) (ci := 10) (v := .int 0) (C := RX11) (T := TX11) (N := 53) hx hb hts iwX11 hown hK hP 0 rfl rfl 18 (by decide) (hts (.fieldLink RX11 206 "ModulePlayerModel" "row" "I") (List.mem_cons_of_mem _ kw_221)) (fun _ h9 => h9) rfl dX11_beginRow_157 ?_
  refine lv_imul hx hb dX11_beginRow_160 ?_
  refine g_topi (y := 0) (by decide) ?_
  refine lv_iadd hx hb dX11_beginRow_161 ?_
  refine g_topi (y := 0) (by decide) ?_
  refine lv_iload_n hx hb dX11_beginRow_162 rfl (lv_at hl 0 rfl) ?_
  refine lv_iadd hx hb dX11_beginRow_163 ?_
  refine g_topi (y := 0) (by decide) ?_
  refine g_iald hx hb hK hP 1 0 rfl rfl 0 (by decide) (by unfold vp_in; decide) dX11_beginRow_164 ?_
  refine g_iast hx hb hK hP hD hS 5 0 rfl rfl 0 (by decide) (by unfold vp_in; decide) dX11_beginRow_165 (fun H locs hP hD hS => ?_)
  have hP : va_P (dC, dI) vwCl [(h, .inr (10, mdF qa x0 x2 x3 x4 1 0 x15 x16 0 0 0 0 ag_ x22 0 x24 (-1) (-1) (-1))), (qa 11, .inl (cI, 2048, .inl (fun _ => 0))), (qa 12, .inl (cI, 128, .inl (fun _ => 0))), (qa 25, .inl (cZ, 8192, .inl fg__100)), (qa 46, .inl (cI, 4, .inl (fun _ => 0))), (qa 47, .inl (cI, 4, .inl (upd (fun _ => 0) 0 0)))] H := hP
  have hD : va_D A [(h, .inr (10, mdF qa x0 x2 x3 x4 1 0 x15 x16 0 0 0 0 ag_ x22 0 x24 (-1) (-1) (-1))), (qa 11, .inl (cI, 2048, .inl (fun _ => 0))), (qa 12, .inl (cI, 128, .inl (fun _ => 0))), (qa 25, .inl (cZ, 8192, .inl fg__100)), (qa 46, .inl (cI, 4, .inl (fun _ => 0))), (qa 47, .inl (cI, 4, .inl (upd (fun _ => 0) 0 0)))] := hD
  have hfe_165 : upd (fun _ => 0) 0 0 = fun _ => 0 := upd_z _
  rw [hfe_165] at hP hD
  refine lv_iinc (v := 1) (lv' := [(3, .int 1), (2, .int 0), (1, .int 0), (0, .ref h)]) hx hb dX11_beginRow_166 hl (k := 0) rfl (by decide) (by decide) rfl (fun ls hl => ?_)
  refine lv_goto (tgt := 128) hx hb dX11_beginRow_169 (by decide) ?_
  refine lv_iload_n hx hb dX11_beginRow_128 rfl (lv_at hl 0 rfl) ?_
  refine lv_iconst (v := 4) hx hb dX11_beginRow_129 (by decide) ?_
  refine lv_icmp_ge (tgt := 172) hx hb dX11_beginRow_130 (by decide) (fun c_130_2 => absurd c_130_2 (by decide)) (fun c_130_2 => ?_)
  refine lv_aload_n hx hb dX11_beginRow_133 rfl (lv_at hl 3 rfl) ?_
  refine va_get (D := (dC, dI)) (ci := 10) (v := .ref (qa 47)) (C := RX11) (T := TX11) (N := 53) hx hb hts iwX11 hown hK hP 0 rfl rfl 47 (by decide) (hts (.fieldLink RX11 104 "ModulePlayerModel" "cell" "[I") (List.mem_cons_of_mem _ kw_203)) (fun _ h9 => h9) rfl dX11_beginRow_134 ?_
  refine lv_iload_n hx hb dX11_beginRow_137 rfl (lv_at hl 0 rfl) ?_
  refine lv_aload_n hx hb dX11_beginRow_138 rfl (lv_at hl 3 rfl) ?_
  refine va_get (D := (dC, dI)) (ci := 10) (v := .ref (qa 11)) (C := RX11) (T := TX11) (N := 53) hx hb hts iwX11 hown hK hP 0 rfl rfl 11 (by decide) (hts (.fieldLink RX11 37 "ModulePlayerModel" "cells" "[I") (List.mem_cons_of_mem _ kw_180)) (fun _ h9 => h9) rfl dX11_beginRow_139 ?_
  refine lv_sipush (v := 256) hx hb dX11_beginRow_142 (by decide) ?_
  refine lv_aload_n hx hb dX11_beginRow_145 rfl (lv_at hl 3 rfl) ?_
  refine va_get (D := (dC, dI)) (ci := 10) (v := .ref (qa 12)) (C := RX11) (T := TX11) (N := 53) hx hb hts iwX11 hown hK hP 0 rfl rfl 12 (by decide) (hts (.fieldLink RX11 40 "ModulePlayerModel" "song" "[I") (List.mem_cons_of_mem _ kw_181)) (fun _ h9 => h9) rfl dX11_beginRow_146 ?_
  refine lv_aload_n hx hb dX11_beginRow_149 rfl (lv_at hl 3 rfl) ?_
  refine va_get (D := (dC, dI)) (ci := 10) (v := .int 0) (C := RX11) (T := TX11) (N := 53) hx hb hts iwX11 hown hK hP 0 rfl rfl 17 (by decide) (hts (.fieldLink RX11 203 "ModulePlayerModel" "place" "I") (List.mem_cons_of_mem _ kw_220)) (fun _ h9 => h9) rfl dX11_beginRow_150 ?_
  refine g_iald hx hb hK hP 2 0 rfl rfl 0 (by decide) (by unfold vp_in; decide) dX11_beginRow_153 ?_
  refine lv_imul hx hb dX11_beginRow_154 ?_
  refine g_topi (y := 0) (by decide) ?_
  refine lv_iconst (v := 4) hx hb dX11_beginRow_155 (by decide) ?_
  refine lv_aload_n hx hb dX11_beginRow_156 rfl (lv_at hl 3 rfl) ?_
  refine va_get (D := (dC, dI)) (ci := 10) (v := .int 0) (C := RX11) (T := TX11) (N := 53) hx hb hts iwX11 hown hK hP 0 rfl rfl 18 (by decide) (hts (.fieldLink RX11 206 "ModulePlayerModel" "row" "I") (List.mem_cons_of_mem _ kw_221)) (fun _ h9 => h9) rfl dX11_beginRow_157 ?_
  refine lv_imul hx hb dX11_beginRow_160 ?_
  refine g_topi (y := 0) (by decide) ?_
  refine lv_iadd hx hb dX11_beginRow_161 ?_
  refine g_topi (y := 0) (by decide) ?_
  refine lv_iload_n hx hb dX11_beginRow_162 rfl (lv_at hl 0 rfl) ?_
  refine lv_iadd hx hb dX11_beginRow_163 ?_
  refine g_topi (y := 1) (by decide) ?_
  refine g_iald hx hb hK hP 1 0 rfl rfl 1 (by decide) (by unfold vp_in; decide) dX11_beginRow_164 ?_
  refine g_iast hx hb hK hP hD hS 5 0 rfl rfl 1 (by decide) (by unfold vp_in; decide) dX11_beginRow_165 (fun H locs hP hD hS => ?_)
  have hP : va_P (dC, dI) vwCl [(h, .inr (10, mdF qa x0 x2 x3 x4 1 0 x15 x16 0 0 0 0 ag_ x22 0 x24 (-1) (-1) (-1))), (qa 11, .inl (cI, 2048, .inl (fun _ => 0))), (qa 12, .inl (cI, 128, .inl (fun _ => 0))), (qa 25, .inl (cZ, 8192, .inl fg__100)), (qa 46, .inl (cI, 4, .inl (fun _ => 0))), (qa 47, .inl (cI, 4, .inl (upd (fun _ => 0) 1 0)))] H := hP
  have hD : va_D A [(h, .inr (10, mdF qa x0 x2 x3 x4 1 0 x15 x16 0 0 0 0 ag_ x22 0 x24 (-1) (-1) (-1))), (qa 11, .inl (cI, 2048, .inl (fun _ => 0))), (qa 12, .inl (cI, 128, .inl (fun _ => 0))), (qa 25, .inl (cZ, 8192, .inl fg__100)), (qa 46, .inl (cI, 4, .inl (fun _ => 0))), (qa 47, .inl (cI, 4, .inl (upd (fun _ => 0) 1 0)))] := hD
  have hfe_165 : upd (fun _ => 0) 1 0 = fun _ => 0 := upd_z _
  rw [hfe_165] at hP hD
  refine lv_iinc (v := 2) (lv' := [(3, .int 2), (2, .int 0), (1, .int 0), (0, .ref h)]) hx hb dX11_beginRow_166 hl (k := 0) rfl (by decide) (by decide) rfl (fun ls hl => ?_)
  refine lv_goto (tgt := 128) hx hb dX11_beginRow_169 (by decide) ?_
  refine lv_iload_n hx hb dX11_beginRow_128 rfl (lv_at hl 0 rfl) ?_
  refine lv_iconst (v := 4) hx hb dX11_beginRow_129 (by decide) ?_
  refine lv_icmp_ge (tgt := 172) hx hb dX11_beginRow_130 (by decide) (fun c_130_3 => absurd c_130_3 (by decide)) (fun c_130_3 => ?_)
  refine lv_aload_n hx hb dX11_beginRow_133 rfl (lv_at hl 3 rfl) ?_
  refine va_get (D := (dC, dI)) (ci := 10) (v := .ref (qa 47)) (C := RX11) (T := TX11) (N := 53) hx hb hts iwX11 hown hK hP 0 rfl rfl 47 (by decide) (hts (.fieldLink RX11 104 "ModulePlayerModel" "cell" "[I") (List.mem_cons_of_mem _ kw_203)) (fun _ h9 => h9) rfl dX11_beginRow_134 ?_
  refine lv_iload_n hx hb dX11_beginRow_137 rfl (lv_at hl 0 rfl) ?_
  refine lv_aload_n hx hb dX11_beginRow_138 rfl (lv_at hl 3 rfl) ?_
  refine va_get (D := (dC, dI)) (ci := 10) (v := .ref (qa 11)) (C := RX11) (T := TX11) (N := 53) hx hb hts iwX11 hown hK hP 0 rfl rfl 11 (by decide) (hts (.fieldLink RX11 37 "ModulePlayerModel" "cells" "[I") (List.mem_cons_of_mem _ kw_180)) (fun _ h9 => h9) rfl dX11_beginRow_139 ?_
  refine lv_sipush (v := 256) hx hb dX11_beginRow_142 (by decide) ?_
  refine lv_aload_n hx hb dX11_beginRow_145 rfl (lv_at hl 3 rfl) ?_
  refine va_get (D := (dC, dI)) (ci := 10) (v := .ref (qa 12)) (C := RX11) (T := TX11) (N := 53) hx hb hts iwX11 hown hK hP 0 rfl rfl 12 (by decide) (hts (.fieldLink RX11 40 "ModulePlayerModel" "song" "[I") (List.mem_cons_of_mem _ kw_181)) (fun _ h9 => h9) rfl dX11_beginRow_146 ?_
  refine lv_aload_n hx hb dX11_beginRow_149 rfl (lv_at hl 3 rfl) ?_
  refine va_get (D := (dC, dI)) (ci := 10) (v := .int 0) (C := RX11) (T := TX11) (N := 53) hx hb hts iwX11 hown hK hP 0 rfl rfl 17 (by decide) (hts (.fieldLink RX11 203 "ModulePlayerModel" "place" "I") (List.mem_cons_of_mem _ kw_220)) (fun _ h9 => h9) rfl dX11_beginRow_150 ?_
  refine g_iald hx hb hK hP 2 0 rfl rfl 0 (by decide) (by unfold vp_in; decide) dX11_beginRow_153 ?_
  refine lv_imul hx hb dX11_beginRow_154 ?_
  refine g_topi (y := 0) (by decide) ?_
  refine lv_iconst (v := 4) hx hb dX11_beginRow_155 (by decide) ?_
  refine lv_aload_n hx hb dX11_beginRow_156 rfl (lv_at hl 3 rfl) ?_
  refine va_get (D := (dC, dI)) (ci := 10) (v := .int 0) (C := RX11) (T := TX11) (N := 53) hx hb hts iwX11 hown hK hP 0 rfl rfl 18 (by decide) (hts (.fieldLink RX11 206 "ModulePlayerModel" "row" "I") (List.mem_cons_of_mem _ kw_221)) (fun _ h9 => h9) rfl dX11_beginRow_157 ?_
  refine lv_imul hx hb dX11_beginRow_160 ?_
  refine g_topi (y := 0) (by decide) ?_
  refine lv_iadd hx hb dX11_beginRow_161 ?_
  refine g_topi (y := 0) (by decide) ?_
  refine lv_iload_n hx hb dX11_beginRow_162 rfl (lv_at hl 0 rfl) ?_
  refine lv_iadd hx hb dX11_beginRow_163 ?_
  refine g_topi (y := 2) (by decide) ?_
  refine g_iald hx hb hK hP 1 0 rfl rfl 2 (by decide) (by unfold vp_in; decide) dX11_beginRow_164 ?_
  refine g_iast hx hb hK hP hD hS 5 0 rfl rfl 2 (by decide) (by unfold vp_in; decide) dX11_beginRow_165 (fun H locs hP hD hS => ?_)
  have hP : va_P (dC, dI) vwCl [(h, .inr (10, mdF qa x0 x2 x3 x4 1 0 x15 x16 0 0 0 0 ag_ x22 0 x24 (-1) (-1) (-1))), (qa 11, .inl (cI, 2048, .inl (fun _ => 0))), (qa 12, .inl (cI, 128, .inl (fun _ => 0))), (qa 25, .inl (cZ, 8192, .inl fg__100)), (qa 46, .inl (cI, 4, .inl (fun _ => 0))), (qa 47, .inl (cI, 4, .inl (upd (fun _ => 0) 2 0)))] H := hP
  have hD : va_D A [(h, .inr (10, mdF qa x0 x2 x3 x4 1 0 x15 x16 0 0 0 0 ag_ x22 0 x24 (-1) (-1) (-1))), (qa 11, .inl (cI, 2048, .inl (fun _ => 0))), (qa 12, .inl (cI, 128, .inl (fun _ => 0))), (qa 25, .inl (cZ, 8192, .inl fg__100)), (qa 46, .inl (cI, 4, .inl (fun _ => 0))), (qa 47, .inl (cI, 4, .inl (upd (fun _ => 0) 2 0)))] := hD
  have hfe_165 : upd (fun _ => 0) 2 0 = fun _ => 0 := upd_z _
  rw [hfe_165] at hP hD
  refine lv_iinc (v := 3) (lv' := [(3, .int 3), (2, .int 0), (1, .int 0), (0, .ref h)]) hx hb dX11_beginRow_166 hl (k := 0) rfl (by decide) (by decide) rfl (fun ls hl => ?_)
  refine lv_goto (tgt := 128) hx hb dX11_beginRow_169 (by decide) ?_
  refine lv_iload_n hx hb dX11_beginRow_128 rfl (lv_at hl 0 rfl) ?_
  refine lv_iconst (v := 4) hx hb dX11_beginRow_129 (by decide) ?_
  refine lv_icmp_ge (tgt := 172) hx hb dX11_beginRow_130 (by decide) (fun c_130_4 => absurd c_130_4 (by decide)) (fun c_130_4 => ?_)
  refine lv_aload_n hx hb dX11_beginRow_133 rfl (lv_at hl 3 rfl) ?_
  refine va_get (D := (dC, dI)) (ci := 10) (v := .ref (qa 47)) (C := RX11) (T := TX11) (N := 53) hx hb hts iwX11 hown hK hP 0 rfl rfl 47 (by decide) (hts (.fieldLink RX11 104 "ModulePlayerModel" "cell" "[I") (List.mem_cons_of_mem _ kw_203)) (fun _ h9 => h9) rfl dX11_beginRow_134 ?_
  refine lv_iload_n hx hb dX11_beginRow_137 rfl (lv_at hl 0 rfl) ?_
  refine lv_aload_n hx hb dX11_beginRow_138 rfl (lv_at hl 3 rfl) ?_
  refine va_get (D := (dC, dI)) (ci := 10) (v := .ref (qa 11)) (C := RX11) (T := TX11) (N := 53) hx hb hts iwX11 hown hK hP 0 rfl rfl 11 (by decide) (hts (.fieldLink RX11 37 "ModulePlayerModel" "cells" "[I") (List.mem_cons_of_mem _ kw_180)) (fun _ h9 => h9) rfl dX11_beginRow_139 ?_
  refine lv_sipush (v := 256) hx hb dX11_beginRow_142 (by decide) ?_
  refine lv_aload_n hx hb dX11_beginRow_145 rfl (lv_at hl 3 rfl) ?_
  refine va_get (D := (dC, dI)) (ci := 10) (v := .ref (qa 12)) (C := RX11) (T := TX11) (N := 53) hx hb hts iwX11 hown hK hP 0 rfl rfl 12 (by decide) (hts (.fieldLink RX11 40 "ModulePlayerModel" "song" "[I") (List.mem_cons_of_mem _ kw_181)) (fun _ h9 => h9) rfl dX11_beginRow_146 ?_
  refine lv_aload_n hx hb dX11_beginRow_149 rfl (lv_at hl 3 rfl) ?_
  refine va_get (D := (dC, dI)) (ci := 10) (v := .int 0) (C := RX11) (T := TX11) (N := 53) hx hb hts iwX11 hown hK hP 0 rfl rfl 17 (by decide) (hts (.fieldLink RX11 203 "ModulePlayerModel" "place" "I") (List.mem_cons_of_mem _ kw_220)) (fun _ h9 => h9) rfl dX11_beginRow_150 ?_
  refine g_iald hx hb hK hP 2 0 rfl rfl 0 (by decide) (by unfold vp_in; decide) dX11_beginRow_153 ?_
  refine lv_imul hx hb dX11_beginRow_154 ?_
  refine g_topi (y := 0) (by decide) ?_
  refine lv_iconst (v := 4) hx hb dX11_beginRow_155 (by decide) ?_
  refine lv_aload_n hx hb dX11_beginRow_156 rfl (lv_at hl 3 rfl) ?_
  refine va_get (D := (dC, dI)) (ci := 10) (v := .int 0) (C := RX11) (T := TX11) (N := 53) hx hb hts iwX11 hown hK hP 0 rfl rfl 18 (by decide) (hts (.fieldLink RX11 206 "ModulePlayerModel" "row" "I") (List.mem_cons_of_mem _ kw_221)) (fun _ h9 => h9) rfl dX11_beginRow_157 ?_
  refine lv_imul hx hb dX11_beginRow_160 ?_
  refine g_topi (y := 0) (by decide) ?_
  refine lv_iadd hx hb dX11_beginRow_161 ?_
  refine g_topi (y := 0) (by decide) ?_
  refine lv_iload_n hx hb dX11_beginRow_162 rfl (lv_at hl 0 rfl) ?_
  refine lv_iadd hx hb dX11_beginRow_163 ?_
  refine g_topi (y := 3) (by decide) ?_
  refine g_iald hx hb hK hP 1 0 rfl rfl 3 (by decide) (by unfold vp_in; decide) dX11_beginRow_164 ?_
  refine g_iast hx hb hK hP hD hS 5 0 rfl rfl 3 (by decide) (by unfold vp_in; decide) dX11_beginRow_165 (fun H locs hP hD hS => ?_)
  have hP : va_P (dC, dI) vwCl [(h, .inr (10, mdF qa x0 x2 x3 x4 1 0 x15 x16 0 0 0 0 ag_ x22 0 x24 (-1) (-1) (-1))), (qa 11, .inl (cI, 2048, .inl (fun _ => 0))), (qa 12, .inl (cI, 128, .inl (fun _ => 0))), (qa 25, .inl (cZ, 8192, .inl fg__100)), (qa 46, .inl (cI, 4, .inl (fun _ => 0))), (qa 47, .inl (cI, 4, .inl (upd (fun _ => 0) 3 0)))] H := hP
  have hD : va_D A [(h, .inr (10, mdF qa x0 x2 x3 x4 1 0 x15 x16 0 0 0 0 ag_ x22 0 x24 (-1) (-1) (-1))), (qa 11, .inl (cI, 2048, .inl (fun _ => 0))), (qa 12, .inl (cI, 128, .inl (fun _ => 0))), (qa 25, .inl (cZ, 8192, .inl fg__100)), (qa 46, .inl (cI, 4, .inl (fun _ => 0))), (qa 47, .inl (cI, 4, .inl (upd (fun _ => 0) 3 0)))] := hD
  have hfe_165 : upd (fun _ => 0) 3 0 = fun _ => 0 := upd_z _
  rw [hfe_165] at hP hD
  refine lv_iinc (v := 4) (lv' := [(3, .int 4), (2, .int 0), (1, .int 0), (0, .ref h)]) hx hb dX11_beginRow_166 hl (k := 0) rfl (by decide) (by decide) rfl (fun ls hl => ?_)
  refine lv_goto (tgt := 128) hx hb dX11_beginRow_169 (by decide) ?_
  refine lv_iload_n hx hb dX11_beginRow_128 rfl (lv_at hl 0 rfl) ?_
  refine lv_iconst (v := 4) hx hb dX11_beginRow_129 (by decide) ?_
  refine lv_icmp_ge (tgt := 172) hx hb dX11_beginRow_130 (by decide) (fun c_130_5 => ?_) (fun c_130_5 => absurd c_130_5 (by decide))
  have hP9 := hP.sub (ws' := [(h, .inr (10, mdF qa x0 x2 x3 x4 1 0 x15 x16 0 0 0 0 ag_ x22 0 x24 (-1) (-1) (-1))), (qa 11, .inl (cI, 2048, .inl (fun _ => 0))), (qa 12, .inl (cI, 128, .inl (fun _ => 0))), (qa 25, .inl (cZ, 8192, .inl fg__100)), (qa 46, .inl (cI, 4, .inl (fun _ => 0))), (qa 47, .inl (cI, 4, .inl (fun _ => 0)))]) [0, 1, 2, 3, 4, 5] rfl
  have hD9 := hD.sub (ws' := [(h, .inr (10, mdF qa x0 x2 x3 x4 1 0 x15 x16 0 0 0 0 ag_ x22 0 x24 (-1) (-1) (-1))), (qa 11, .inl (cI, 2048, .inl (fun _ => 0))), (qa 12, .inl (cI, 128, .inl (fun _ => 0))), (qa 25, .inl (cZ, 8192, .inl fg__100)), (qa 46, .inl (cI, 4, .inl (fun _ => 0))), (qa 47, .inl (cI, 4, .inl (fun _ => 0)))]) [0, 1, 2, 3, 4, 5] (by decide) rfl
  have hK9 := hK.sub (tys' := []) [] rfl
  exact W.vret hx hb hr (fun t ht hW => ⟨⟨([(h, .inr (10, mdF qa x0 x2 x3 x4 1 0 x15 x16 0 0 0 0 ag_ x22 0 x24 (-1) (-1) (-1))), (qa 11, .inl (cI, 2048, .inl (fun _ => 0))), (qa 12, .inl (cI, 128, .inl (fun _ => 0))), (qa 25, .inl (cZ, 8192, .inl fg__100)), (qa 46, .inl (cI, 4, .inl (fun _ => 0))), (qa 47, .inl (cI, 4, .inl (fun _ => 0)))], []), rfl, ⟨0, ag_, fg__100, rfl, (by decide)⟩, by rw [ht]; exact hP9, va_K.moved hW.alike hK9, hD9⟩, hS.F ht⟩) hS.2.2 dX11_beginRow_172

set_option maxHeartbeats 400000 in
set_option maxRecDepth 100000 in
theorem m_beginRowB (l : Launch) (dC : Nat → ClassId) (dI : Nat → Nat → Nat) (sz : Nat) (h : Nat) (qa : Nat → Nat) (x0 x2 x3 x4 x15 x16 x19 x20 x21 x22 x24 : Int32) (cI cZ : ClassId) (fz : Nat → Int32) (ro nn : Nat) (hro : ro < 64) (hnn : 0 < nn) (hnn2 : nn < 2147483648) : Met l yX11_beginRow (wsG (.code yX11_beginRow cX11_beginRow 4 none)) ({ frames := 2, cells := 0, slots := 0, locals := 41 }) (va_Pc [.ref h] (gP (dC, dI) [(cI, .int), (cZ, .boolean)] [(h, .inr (10, mdF qa x0 x2 x3 x4 1 0 x15 x16 0 (nI ro) x19 x20 x21 x22 (nI nn) x24 (-1) (-1) (-1))), (qa 11, .inl (cI, 2048, .inl (fun _ => 0))), (qa 12, .inl (cI, 128, .inl (fun _ => 0))), (qa 25, .inl (cZ, 8192, .inl fz)), (qa 46, .inl (cI, 4, .inl (fun _ => 0))), (qa 47, .inl (cI, 4, .inl (fun _ => 0)))] sz)) (va_Qv (fun u : va_W × gT => ∃ (ro2 : Nat) (ag2 : Int32) (fz2 : Nat → Int32), u = ([(h, .inr (10, mdF qa x0 x2 x3 x4 1 0 x15 x16 0 (nI ro2) 0 0 ag2 x22 (nI nn) x24 (-1) (-1) (-1))), (qa 11, .inl (cI, 2048, .inl (fun _ => 0))), (qa 12, .inl (cI, 128, .inl (fun _ => 0))), (qa 25, .inl (cZ, 8192, .inl fz2)), (qa 46, .inl (cI, 4, .inl (fun _ => 0))), (qa 47, .inl (cI, 4, .inl (fun _ => 0)))], []) ∧ ro2 < 64) (gB (dC, dI) (va_A [(h, .inr (10, mdF qa x0 x2 x3 x4 1 0 x15 x16 0 (nI ro) x19 x20 x21 x22 (nI nn) x24 (-1) (-1) (-1))), (qa 11, .inl (cI, 2048, .inl (fun _ => 0))), (qa 12, .inl (cI, 128, .inl (fun _ => 0))), (qa 25, .inl (cZ, 8192, .inl fz)), (qa 46, .inl (cI, 4, .inl (fun _ => 0))), (qa 47, .inl (cI, 4, .inl (fun _ => 0)))] sz)) (va_A [(h, .inr (10, mdF qa x0 x2 x3 x4 1 0 x15 x16 0 (nI ro) x19 x20 x21 x22 (nI nn) x24 (-1) (-1) (-1))), (qa 11, .inl (cI, 2048, .inl (fun _ => 0))), (qa 12, .inl (cI, 128, .inl (fun _ => 0))), (qa 25, .inl (cZ, 8192, .inl fz)), (qa 46, .inl (cI, 4, .inl (fun _ => 0))), (qa 47, .inl (cI, 4, .inl (fun _ => 0)))] sz)) 0 0 (va_A [(h, .inr (10, mdF qa x0 x2 x3 x4 1 0 x15 x16 0 (nI ro) x19 x20 x21 x22 (nI nn) x24 (-1) (-1) (-1))), (qa 11, .inl (cI, 2048, .inl (fun _ => 0))), (qa 12, .inl (cI, 128, .inl (fun _ => 0))), (qa 25, .inl (cZ, 8192, .inl fz)), (qa 46, .inl (cI, 4, .inl (fun _ => 0))), (qa 47, .inl (cI, 4, .inl (fun _ => 0)))] sz) := by
  refine Met.ofW (cc := cX11_beginRow) (maxL := 4) (ret := none) (by decide) rfl ?_
  intro p e s m args below meth c s₁ B hml hv
  obtain ⟨rfl, hsz, hP, hK, hD0, hN, hZ⟩ := hv
  have hx := B.exec
  have hb := B.bytes
  have hr := B.returns
  have hts := atoms_spec (ws := (wsG (.code yX11_beginRow cX11_beginRow 4 none))) B.pre
  have hown : s.vm.findClass RX11 = some m.cls := findClass_of_methodNamed B.named
  have hlocks := B.notSynchronized
  subst hsz
  have hD := hD0.self (sz := s.heap.size)
  generalize hAe : va_A [(h, .inr (10, mdF qa x0 x2 x3 x4 1 0 x15 x16 0 (nI ro) x19 x20 x21 x22 (nI nn) x24 (-1) (-1) (-1))), (qa 11, .inl (cI, 2048, .inl (fun _ => 0))), (qa 12, .inl (cI, 128, .inl (fun _ => 0))), (qa 25, .inl (cZ, 8192, .inl fz)), (qa 46, .inl (cI, 4, .inl (fun _ => 0))), (qa 47, .inl (cI, 4, .inl (fun _ => 0)))] s.heap.size = A at hD hZ ⊢
  have hA : ∀ q : Nat, s.heap.size ≤ q → A q := fun q h => by rw [← hAe]; exact Or.inr h
  have hl := lv_entry ([.ref h]) (n := 4) (Nat.le_of_ble_eq_true rfl)
  rw [lg_entry_eq]
  generalize (lg_sl ([.ref h]) ++ List.replicate (4 - (lg_sl ([.ref h])).length) Slot.unset).toArray = ls at hl ⊢
  have hl : lv_has ls 4 [(0, .ref h)] := hl
  refine g_start (A := A) hP (fun H locs hP hS => ?_)
  refine lv_aload_n hx hb dX11_beginRow_0 rfl (lv_at hl 0 rfl) ?_
  refine va_get (D := (dC, dI)) (ci := 10) (v := .int (nI nn)) (C := RX11) (T := TX11) (N := 53) hx hb hts iwX11 hown hK hP 0 rfl rfl 23 (by decide) (hts (.fieldLink RX11 224 "ModulePlayerModel" "ticks" "I") (List.mem_cons_of_mem _ kw_227)) (fun _ h9 => h9) rfl dX11_beginRow_1 ?_
  refine lv_if_ne (tgt := 20) hx hb dX11_beginRow_4 (by decide) (fun c_4 => ?_) (fun c_4 => absurd c_4 (nI_ne0 hnn hnn2))
  refine lv_aload_n hx hb dX11_beginRow_20 rfl (lv_at hl 0 rfl) ?_
  refine g_callv (wr := [(qa 11, .inl (cI, 2048, .inl (fun _ => 0))), (qa 12, .inl (cI, 128, .inl (fun _ => 0))), (qa 25, .inl (cZ, 8192, .inl fz)), (qa 46, .inl (cI, 4, .inl (fun _ => 0))), (qa 47, .inl (cI, 4, .inl (fun _ => 0)))]) (va_runV (As := []) (rest := []) ⟨hx, hb, hml, hown, hts⟩ (m_goOn0 l dC dI H.size h qa x0 x2 x3 x4 x15 x16 x19 x20 x21 x22 (nI nn) x24 ro (hro)) (cwV 0 hts (gG_V kw_844 kw_845 kw_846 kw_5 kw_847) rfl rfl rfl (by decide +kernel) ⟨Nat.le_of_ble_eq_true rfl, Nat.le_of_ble_eq_true rfl⟩) (g_preV (C := RX11) (T := TX11) (N := 53) hP hD hK hS hA hN hZ (q0 := 0) rfl rfl [0] (by decide) rfl [] rfl) rfl rfl hl.1 rfl (lv_room (Nat.le_of_ble_eq_true rfl)) dX11_beginRow_21 ⟨Nat.le_of_ble_eq_true rfl, Nat.le_of_ble_eq_true rfl⟩) hP hD hK hS hA [0] [1, 2, 3, 4, 5] rfl rfl (by decide) (by decide) (fun w ty1 H locs hw_21 hP hD _ hS => ?_)
  rcases hw_21 with ⟨ro2_21, hu, hro2_21⟩
  cases hu
  have hP : va_P (dC, dI) vwCl [(qa 11, .inl (cI, 2048, .inl (fun _ => 0))), (qa 12, .inl (cI, 128, .inl (fun _ => 0))), (qa 25, .inl (cZ, 8192, .inl fz)), (qa 46, .inl (cI, 4, .inl (fun _ => 0))), (qa 47, .inl (cI, 4, .inl (fun _ => 0))), (h, .inr (10, mdF qa x0 x2 x3 x4 1 0 x15 x16 0 (nI ro2_21) x19 x20 x21 x22 (nI nn) x24 (-1) (-1) (-1)))] H := hP
  have hD : va_D A [(qa 11, .inl (cI, 2048, .inl (fun _ => 0))), (qa 12, .inl (cI, 128, .inl (fun _ => 0))), (qa 25, .inl (cZ, 8192, .inl fz)), (qa 46, .inl (cI, 4, .inl (fun _ => 0))), (qa 47, .inl (cI, 4, .inl (fun _ => 0))), (h, .inr (10, mdF qa x0 x2 x3 x4 1 0 x15 x16 0 (nI ro2_21) x19 x20 x21 x22 (nI nn) x24 (-1) (-1) (-1)))] := hD
  refine lv_bipush (v := 64) hx hb dX11_beginRow_24 (by decide) ?_
  refine lv_aload_n hx hb dX11_beginRow_26 rfl (lv_at hl 0 rfl) ?_
  refine va_get (D := (dC, dI)) (ci := 10) (v := .int 0) (C := RX11) (T := TX11) (N := 53) hx hb hts iwX11 hown hK hP 5 rfl rfl 17 (by decide) (hts (.fieldLink RX11 203 "ModulePlayerModel" "place" "I") (List.mem_cons_of_mem _ kw_220)) (fun _ h9 => h9) rfl dX11_beginRow_27 ?_
  refine lv_imul hx hb dX11_beginRow_30 ?_
  refine g_topi (y := 0) (by decide) ?_
  refine lv_aload_n hx hb dX11_beginRow_31 rfl (lv_at hl 0 rfl) ?_
  refine va_get (D := (dC, dI)) (ci := 10) (v := .int (nI ro2_21)) (C := RX11) (T := TX11) (N := 53) hx hb hts iwX11 hown hK hP 5 rfl rfl 18 (by decide) (hts (.fieldLink RX11 206 "ModulePlayerModel" "row" "I") (List.mem_cons_of_mem _ kw_221)) (fun _ h9 => h9) rfl dX11_beginRow_32 ?_
  refine lv_iadd hx hb dX11_beginRow_35 ?_
  refine g_topi (y := nI ro2_21) (Int32.zero_add _) ?_
  refine lv_istore_n (lv' := [(1, .int (nI ro2_21)), (0, .ref h)]) hx hb dX11_beginRow_36 rfl hl (by decide) rfl (fun ls hl => ?_)
  refine lv_iconst (v := 0) hx hb dX11_beginRow_37 (by decide) ?_
  refine lv_istore_n (lv' := [(2, .int 0), (1, .int (nI ro2_21)), (0, .ref h)]) hx hb dX11_beginRow_38 rfl hl (by decide) rfl (fun ls hl => ?_)
  refine lv_iconst (v := 0) hx hb dX11_beginRow_39 (by decide) ?_
  refine lv_istore_n (lv' := [(3, .int 0), (2, .int 0), (1, .int (nI ro2_21)), (0, .ref h)]) hx hb dX11_beginRow_40 rfl hl (by decide) rfl (fun ls hl => ?_)
  refine lv_iload_n hx hb dX11_beginRow_41 rfl (lv_at hl 0 rfl) ?_
  refine lv_iconst (v := 4) hx hb dX11_beginRow_42 (by decide) ?_
  refine lv_icmp_ge (tgt := 71) hx hb dX11_beginRow_43 (by decide) (fun c_43 => absurd c_43 (by decide)) (fun c_43 => ?_)
  refine lv_iload_n hx hb dX11_beginRow_46 rfl (lv_at hl 1 rfl) ?_
  refine lv_if_ne (tgt := 59) hx hb dX11_beginRow_47 (by decide) (fun c_47 => absurd c_47 (by decide)) (fun c_47 => ?_)
  refine lv_aload_n hx hb dX11_beginRow_50 rfl (lv_at hl 3 rfl) ?_
  refine va_get (D := (dC, dI)) (ci := 10) (v := .ref (qa 46)) (C := RX11) (T := TX11) (N := 53) hx hb hts iwX11 hown hK hP 5 rfl rfl 46 (by decide) (hts (.fieldLink RX11 101 "ModulePlayerModel" "loopLeft" "[I") (List.mem_cons_of_mem _ kw_202)) (fun _ h9 => h9) rfl dX11_beginRow_51 ?_
  refine lv_iload_n hx hb dX11_beginRow_54 rfl (lv_at hl 0 rfl) ?_
  refine g_iald hx hb hK hP 3 0 rfl rfl 0 (by decide) (by unfold vp_in; decide) dX11_beginRow_55 ?_
  refine lv_if_le (tgt := 63) hx hb dX11_beginRow_56 (by decide) (fun c_56 => ?_) (fun c_56 => absurd c_56 (by decide))
  refine lv_iconst (v := 0) hx hb dX11_beginRow_63 (by decide) ?_
  refine lv_istore_n (lv' := [(2, .int 0), (3, .int 0), (1, .int (nI ro2_21)), (0, .ref h)]) hx hb dX11_beginRow_64 rfl hl (by decide) rfl (fun ls hl => ?_)
  refine lv_iinc (v := 1) (lv' := [(3, .int 1), (2, .int 0), (1, .int (nI ro2_21)), (0, .ref h)]) hx hb dX11_beginRow_65 hl (k := 1) rfl (by decide) (by decide) rfl (fun ls hl => ?_)
  refine lv_goto (tgt := 41) hx hb dX11_beginRow_68 (by decide) ?_
  refine lv_iload_n hx hb dX11_beginRow_41 rfl (lv_at hl 0 rfl) ?_
  refine lv_iconst (v := 4) hx hb dX11_beginRow_42 (by decide) ?_
  refine lv_icmp_ge (tgt := 71) hx hb dX11_beginRow_43 (by decide) (fun c_43_2 => absurd c_43_2 (by decide)) (fun c_43_2 => ?_)
  refine lv_iload_n hx hb dX11_beginRow_46 rfl (lv_at hl 1 rfl) ?_
  refine lv_if_ne (tgt := 59) hx hb dX11_beginRow_47 (by decide) (fun c_47_2 => absurd c_47_2 (by decide)) (fun c_47_2 => ?_)
  refine lv_aload_n hx hb dX11_beginRow_50 rfl (lv_at hl 3 rfl) ?_
  refine va_get (D := (dC, dI)) (ci := 10) (v := .ref (qa 46)) (C := RX11) (T := TX11) (N := 53) hx hb hts iwX11 hown hK hP 5 rfl rfl 46 (by decide) (hts (.fieldLink RX11 101 "ModulePlayerModel" "loopLeft" "[I") (List.mem_cons_of_mem _ kw_202)) (fun _ h9 => h9) rfl dX11_beginRow_51 ?_
  refine lv_iload_n hx hb dX11_beginRow_54 rfl (lv_at hl 0 rfl) ?_
  refine g_iald hx hb hK hP 3 0 rfl rfl 1 (by decide) (by unfold vp_in; decide) dX11_beginRow_55 ?_
  refine lv_if_le (tgt := 63) hx hb dX11_beginRow_56 (by decide) (fun c_56_2 => ?_) (fun c_56_2 => absurd c_56_2 (by decide))
  refine lv_iconst (v := 0) hx hb dX11_beginRow_63 (by decide) ?_
  refine lv_istore_n (lv' := [(2, .int 0), (3, .int 1), (1, .int (nI ro2_21)), (0, .ref h)]) hx hb dX11_beginRow_64 rfl hl (by decide) rfl (fun ls hl => ?_)
  refine lv_iinc (v := 2) (lv' := [(3, .int 2), (2, .int 0), (1, .int (nI ro2_21)), (0, .ref h)]) hx hb dX11_beginRow_65 hl (k := 1) rfl (by decide) (by decide) rfl (fun ls hl => ?_)
  refine lv_goto (tgt := 41) hx hb dX11_beginRow_68 (by decide) ?_
  refine lv_iload_n hx hb dX11_beginRow_41 rfl (lv_at hl 0 rfl) ?_
  refine lv_iconst (v := 4) hx hb dX11_beginRow_42 (by decide) ?_
  refine lv_icmp_ge (tgt := 71) hx hb dX11_beginRow_43 (by decide) (fun c_43_3 => absurd c_43_3 (by decide)) (fun c_43_3 => ?_)
  refine lv_iload_n hx hb dX11_beginRow_46 rfl (lv_at hl 1 rfl) ?_
  refine lv_if_ne (tgt := 59) hx hb dX11_beginRow_47 (by decide) (fun c_47_3 => absurd c_47_3 (by decide)) (fun c_47_3 => ?_)
  refine lv_aload_n hx hb dX11_beginRow_50 rfl (lv_at hl 3 rfl) ?_
  refine va_get (D := (dC, dI)) (ci := 10) (v := .ref (qa 46)) (C := RX11) (T := TX11) (N := 53) hx hb hts iwX11 hown hK hP 5 rfl rfl 46 (by decide) (hts (.fieldLink RX11 101 "ModulePlayerModel" "loopLeft" "[I") (List.mem_cons_of_mem _ kw_202)) (fun _ h9 => h9) rfl dX11_beginRow_51 ?_
  refine lv_iload_n hx hb dX11_beginRow_54 rfl (lv_at hl 0 rfl) ?_
  refine g_iald hx hb hK hP 3 0 rfl rfl 2 (by decide) (by unfold vp_in; decide) dX11_beginRow_55 ?_
  refine lv_if_le (tgt := 63) hx hb dX11_beginRow_56 (by decide) (fun c_56_3 => ?_) (fun c_56_3 => absurd c_56_3 (by decide))
  refine lv_iconst (v := 0) hx hb dX11_beginRow_63 (by decide) ?_
  refine lv_istore_n (lv' := [(2, .int 0), (3, .int 2), (1, .int (nI ro2_21)), (0, .ref h)]) hx hb dX11_beginRow_64 rfl hl (by decide) rfl (fun ls hl => ?_)
  refine lv_iinc (v := 3) (lv' := [(3, .int 3), (2, .int 0), (1, .int (nI ro2_21)), (0, .ref h)]) hx hb dX11_beginRow_65 hl (k := 1) rfl (by decide) (by decide) rfl (fun ls hl => ?_)
  refine lv_goto (tgt := 41) hx hb dX11_beginRow_68 (by decide) ?_
  refine lv_iload_n hx hb dX11_beginRow_41 rfl (lv_at hl 0 rfl) ?_
  refine lv_iconst (v := 4) hx hb dX11_beginRow_42 (by decide) ?_
  refine lv_icmp_ge (tgt := 71) hx hb dX11_beginRow_43 (by decide) (fun c_43_4 => absurd c_43_4 (by decide)) (fun c_43_4 => ?_)
  refine lv_iload_n hx hb dX11_beginRow_46 rfl (lv_at hl 1 rfl) ?_
  refine lv_if_ne (tgt := 59) hx hb dX11_beginRow_47 (by decide) (fun c_47_4 => absurd c_47_4 (by decide)) (fun c_47_4 => ?_)
  refine lv_aload_n hx hb dX11_beginRow_50 rfl (lv_at hl 3 rfl) ?_
  refine va_get (D := (dC, dI)) (ci := 10) (v := .ref (qa 46)) (C := RX11) (T := TX11) (N := 53) hx hb hts iwX11 hown hK hP 5 rfl rfl 46 (by decide) (hts (.fieldLink RX11 101 "ModulePlayerModel" "loopLeft" "[I") (List.mem_cons_of_mem _ kw_202)) (fun _ h9 => h9) rfl dX11_beginRow_51 ?_
  refine lv_iload_n hx hb dX11_beginRow_54 rfl (lv_at hl 0 rfl) ?_
  refine g_iald hx hb hK hP 3 0 rfl rfl 3 (by decide) (by unfold vp_in; decide) dX11_beginRow_55 ?_
  refine lv_if_le (tgt := 63) hx hb dX11_beginRow_56 (by decide) (fun c_56_4 => ?_) (fun c_56_4 => absurd c_56_4 (by decide))
  refine lv_iconst (v := 0) hx hb dX11_beginRow_63 (by decide) ?_
  refine lv_istore_n (lv' := [(2, .int 0), (3, .int 3), (1, .int (nI ro2_21)), (0, .ref h)]) hx hb dX11_beginRow_64 rfl hl (by decide) rfl (fun ls hl => ?_)
  refine lv_iinc (v := 4) (lv' := [(3, .int 4), (2, .int 0), (1, .int (nI ro2_21)), (0, .ref h)]) hx hb dX11_beginRow_65 hl (k := 1) rfl (by decide) (by decide) rfl (fun ls hl => ?_)
  refine lv_goto (tgt := 41) hx hb dX11_beginRow_68 (by decide) ?_
  refine lv_iload_n hx hb dX11_beginRow_41 rfl (lv_at hl 0 rfl) ?_
  refine lv_iconst (v := 4) hx hb dX11_beginRow_42 (by decide) ?_
  refine lv_icmp_ge (tgt := 71) hx hb dX11_beginRow_43 (by decide) (fun c_43_5 => ?_) (fun c_43_5 => absurd c_43_5 (by decide))
  refine lv_iload_n hx hb dX11_beginRow_71 rfl (lv_at hl 1 rfl) ?_
  refine lv_if_ne (tgt := 94) hx hb dX11_beginRow_72 (by decide) (fun c_72 => absurd c_72 (by decide)) (fun c_72 => ?_)
  refine lv_aload_n hx hb dX11_beginRow_75 rfl (lv_at hl 3 rfl) ?_
  refine va_get (D := (dC, dI)) (ci := 10) (v := .ref (qa 25)) (C := RX11) (T := TX11) (N := 53) hx hb hts iwX11 hown hK hP 5 rfl rfl 25 (by decide) (hts (.fieldLink RX11 46 "ModulePlayerModel" "begun" "[Z") (List.mem_cons_of_mem _ kw_184)) (fun _ h9 => h9) rfl dX11_beginRow_76 ?_
  refine lv_iload_n hx hb dX11_beginRow_79 rfl (lv_at hl 2 rfl) ?_
  refine g_zald hx hb hK hP 2 1 rfl rfl ro2_21 (nI_clamp (Nat.lt_trans (show ro2_21 < 8192 from by omega) (by decide))) (vp_in_nI (by omega) (by decide)) dX11_beginRow_80 ?_
  refine lv_if_eq (tgt := 94) hx hb dX11_beginRow_81 (by decide) (fun c_81 => ?_) (fun c_81 => ?_)
  · refine lv_aload_n hx hb dX11_beginRow_94 rfl (lv_at hl 3 rfl) ?_
    refine va_get (D := (dC, dI)) (ci := 10) (v := .ref (qa 25)) (C := RX11) (T := TX11) (N := 53) hx hb hts iwX11 hown hK hP 5 rfl rfl 25 (by decide) (hts (.fieldLink RX11 46 "ModulePlayerModel" "begun" "[Z") (List.mem_cons_of_mem _ kw_184)) (fun _ h9 => h9) rfl dX11_beginRow_95 ?_
    refine lv_iload_n hx hb dX11_beginRow_98 rfl (lv_at hl 2 rfl) ?_
    refine lv_iconst (v := 1) hx hb dX11_beginRow_99 (by decide) ?_
    refine g_zast hx hb hK hP hD hS 2 1 rfl rfl (x' := 1) (by decide) ro2_21 (nI_clamp (Nat.lt_trans (show ro2_21 < 8192 from by omega) (by decide))) (vp_in_nI (by omega) (by decide)) dX11_beginRow_100 (fun H locs hP hD hS => ?_)
    have hP : va_P (dC, dI) vwCl [(qa 11, .inl (cI, 2048, .inl (fun _ => 0))), (qa 12, .inl (cI, 128, .inl (fun _ => 0))), (qa 25, .inl (cZ, 8192, .inl (upd fz ro2_21 1))), (qa 46, .inl (cI, 4, .inl (fun _ => 0))), (qa 47, .inl (cI, 4, .inl (fun _ => 0))), (h, .inr (10, mdF qa x0 x2 x3 x4 1 0 x15 x16 0 (nI ro2_21) x19 x20 x21 x22 (nI nn) x24 (-1) (-1) (-1)))] H := hP
    have hD : va_D A [(qa 11, .inl (cI, 2048, .inl (fun _ => 0))), (qa 12, .inl (cI, 128, .inl (fun _ => 0))), (qa 25, .inl (cZ, 8192, .inl (upd fz ro2_21 1))), (qa 46, .inl (cI, 4, .inl (fun _ => 0))), (qa 47, .inl (cI, 4, .inl (fun _ => 0))), (h, .inr (10, mdF qa x0 x2 x3 x4 1 0 x15 x16 0 (nI ro2_21) x19 x20 x21 x22 (nI nn) x24 (-1) (-1) (-1)))] := hD
    generalize upd fz ro2_21 1 = fg__100 at hP hD
    refine lv_aload_n hx hb dX11_beginRow_101 rfl (lv_at hl 3 rfl) ?_
    refine lv_iconst (v := 0) hx hb dX11_beginRow_102 (by decide) ?_
    refine va_put (D := (dC, dI)) (ci := 10) (v := .int 0) (ty := tyX11 19) (C := RX11) (T := TX11) (N := 53) hx hb hts iwX11 tyX11 tyX11_ok nmX11 hown hK hP hD hS 5 rfl rfl 19 (by decide) (hts (.fieldLink RX11 209 "ModulePlayerModel" "tick" "I") (List.mem_cons_of_mem _ kw_222)) (fun _ h9 => h9) rfl (by decide +kernel) (rfl) (rfl) (Nat.le_of_ble_eq_true rfl) dX11_beginRow_103 (fun H locs hP hD hS => ?_)
    have hP : va_P (dC, dI) vwCl [(qa 11, .inl (cI, 2048, .inl (fun _ => 0))), (qa 12, .inl (cI, 128, .inl (fun _ => 0))), (qa 25, .inl (cZ, 8192, .inl fg__100)), (qa 46, .inl (cI, 4, .inl (fun _ => 0))), (qa 47, .inl (cI, 4, .inl (fun _ => 0))), (h, .inr (10, mdF qa x0 x2 x3 x4 1 0 x15 x16 0 (nI ro2_21) 0 x20 x21 x22 (nI nn) x24 (-1) (-1) (-1)))] H := hP
    have hD : va_D A [(qa 11, .inl (cI, 2048, .inl (fun _ => 0))), (qa 12, .inl (cI, 128, .inl (fun _ => 0))), (qa 25, .inl (cZ, 8192, .inl fg__100)), (qa 46, .inl (cI, 4, .inl (fun _ => 0))), (qa 47, .inl (cI, 4, .inl (fun _ => 0))), (h, .inr (10, mdF qa x0 x2 x3 x4 1 0 x15 x16 0 (nI ro2_21) 0 x20 x21 x22 (nI nn) x24 (-1) (-1) (-1)))] := hD
    refine lv_aload_n hx hb dX11_beginRow_106 rfl (lv_at hl 3 rfl) ?_
    refine lv_iconst (v := 0) hx hb dX11_beginRow_107 (by decide) ?_
    refine va_put (D := (dC, dI)) (ci := 10) (v := .int 0) (ty := tyX11 20) (C := RX11) (T := TX11) (N := 53) hx hb hts iwX11 tyX11 tyX11_ok nmX11 hown hK hP hD hS 5 rfl rfl 20 (by decide) (hts (.fieldLink RX11 215 "ModulePlayerModel" "delay" "I") (List.mem_cons_of_mem _ kw_224)) (fun _ h9 => h9) rfl (by decide +kernel) (rfl) (rfl) (Nat.le_of_ble_eq_true rfl) dX11_beginRow_108 (fun H locs hP hD hS => ?_)
    have hP : va_P (dC, dI) vwCl [(qa 11, .inl (cI, 2048, .inl (fun _ => 0))), (qa 12, .inl (cI, 128, .inl (fun _ => 0))), (qa 25, .inl (cZ, 8192, .inl fg__100)), (qa 46, .inl (cI, 4, .inl (fun _ => 0))), (qa 47, .inl (cI, 4, .inl (fun _ => 0))), (h, .inr (10, mdF qa x0 x2 x3 x4 1 0 x15 x16 0 (nI ro2_21) 0 0 x21 x22 (nI nn) x24 (-1) (-1) (-1)))] H := hP
    have hD : va_D A [(qa 11, .inl (cI, 2048, .inl (fun _ => 0))), (qa 12, .inl (cI, 128, .inl (fun _ => 0))), (qa 25, .inl (cZ, 8192, .inl fg__100)), (qa 46, .inl (cI, 4, .inl (fun _ => 0))), (qa 47, .inl (cI, 4, .inl (fun _ => 0))), (h, .inr (10, mdF qa x0 x2 x3 x4 1 0 x15 x16 0 (nI ro2_21) 0 0 x21 x22 (nI nn) x24 (-1) (-1) (-1)))] := hD
    refine lv_aload_n hx hb dX11_beginRow_111 rfl (lv_at hl 3 rfl) ?_
    refine lv_iconst (v := (-1)) hx hb dX11_beginRow_112 (by decide) ?_
    refine va_put (D := (dC, dI)) (ci := 10) (v := .int (-1)) (ty := tyX11 26) (C := RX11) (T := TX11) (N := 53) hx hb hts iwX11 tyX11 tyX11_ok nmX11 hown hK hP hD hS 5 rfl rfl 26 (by decide) (hts (.fieldLink RX11 245 "ModulePlayerModel" "jump" "I") (List.mem_cons_of_mem _ kw_841)) (fun _ h9 => h9) rfl (by decide +kernel) (rfl) (rfl) (Nat.le_of_ble_eq_true rfl) dX11_beginRow_113 (fun H locs hP hD hS => ?_)
    have hP : va_P (dC, dI) vwCl [(qa 11, .inl (cI, 2048, .inl (fun _ => 0))), (qa 12, .inl (cI, 128, .inl (fun _ => 0))), (qa 25, .inl (cZ, 8192, .inl fg__100)), (qa 46, .inl (cI, 4, .inl (fun _ => 0))), (qa 47, .inl (cI, 4, .inl (fun _ => 0))), (h, .inr (10, mdF qa x0 x2 x3 x4 1 0 x15 x16 0 (nI ro2_21) 0 0 x21 x22 (nI nn) x24 (-1) (-1) (-1)))] H := hP
    have hD : va_D A [(qa 11, .inl (cI, 2048, .inl (fun _ => 0))), (qa 12, .inl (cI, 128, .inl (fun _ => 0))), (qa 25, .inl (cZ, 8192, .inl fg__100)), (qa 46, .inl (cI, 4, .inl (fun _ => 0))), (qa 47, .inl (cI, 4, .inl (fun _ => 0))), (h, .inr (10, mdF qa x0 x2 x3 x4 1 0 x15 x16 0 (nI ro2_21) 0 0 x21 x22 (nI nn) x24 (-1) (-1) (-1)))] := hD
    refine lv_aload_n hx hb dX11_beginRow_116 rfl (lv_at hl 3 rfl) ?_
    refine lv_iconst (v := (-1)) hx hb dX11_beginRow_117 (by decide) ?_
    refine va_put (D := (dC, dI)) (ci := 10) (v := .int (-1)) (ty := tyX11 27) (C := RX11) (T := TX11) (N := 53) hx hb hts iwX11 tyX11 tyX11_ok nmX11 hown hK hP hD hS 5 rfl rfl 27 (by decide) (hts (.fieldLink RX11 248 "ModulePlayerModel" "stop" "I") (List.mem_cons_of_mem _ kw_842)) (fun _ h9 => h9) rfl (by decide +kernel) (rfl) (rfl) (Nat.le_of_ble_eq_true rfl) dX11_beginRow_118 (fun H locs hP hD hS => ?_)
    have hP : va_P (dC, dI) vwCl [(qa 11, .inl (cI, 2048, .inl (fun _ => 0))), (qa 12, .inl (cI, 128, .inl (fun _ => 0))), (qa 25, .inl (cZ, 8192, .inl fg__100)), (qa 46, .inl (cI, 4, .inl (fun _ => 0))), (qa 47, .inl (cI, 4, .inl (fun _ => 0))), (h, .inr (10, mdF qa x0 x2 x3 x4 1 0 x15 x16 0 (nI ro2_21) 0 0 x21 x22 (nI nn) x24 (-1) (-1) (-1)))] H := hP
    have hD : va_D A [(qa 11, .inl (cI, 2048, .inl (fun _ => 0))), (qa 12, .inl (cI, 128, .inl (fun _ => 0))), (qa 25, .inl (cZ, 8192, .inl fg__100)), (qa 46, .inl (cI, 4, .inl (fun _ => 0))), (qa 47, .inl (cI, 4, .inl (fun _ => 0))), (h, .inr (10, mdF qa x0 x2 x3 x4 1 0 x15 x16 0 (nI ro2_21) 0 0 x21 x22 (nI nn) x24 (-1) (-1) (-1)))] := hD
    refine lv_aload_n hx hb dX11_beginRow_121 rfl (lv_at hl 3 rfl) ?_
    refine lv_iconst (v := (-1)) hx hb dX11_beginRow_122 (by decide) ?_
    refine va_put (D := (dC, dI)) (ci := 10) (v := .int (-1)) (ty := tyX11 28) (C := RX11) (T := TX11) (N := 53) hx hb hts iwX11 tyX11 tyX11_ok nmX11 hown hK hP hD hS 5 rfl rfl 28 (by decide) (hts (.fieldLink RX11 242 "ModulePlayerModel" "loopTo" "I") (List.mem_cons_of_mem _ kw_843)) (fun _ h9 => h9) rfl (by decide +kernel) (rfl) (rfl) (Nat.le_of_ble_eq_true rfl) dX11_beginRow_123 (fun H locs hP hD hS => ?_)
    have hP : va_P (dC, dI) vwCl [(qa 11, .inl (cI, 2048, .inl (fun _ => 0))), (qa 12, .inl (cI, 128, .inl (fun _ => 0))), (qa 25, .inl (cZ, 8192, .inl fg__100)), (qa 46, .inl (cI, 4, .inl (fun _ => 0))), (qa 47, .inl (cI, 4, .inl (fun _ => 0))), (h, .inr (10, mdF qa x0 x2 x3 x4 1 0 x15 x16 0 (nI ro2_21) 0 0 x21 x22 (nI nn) x24 (-1) (-1) (-1)))] H := hP
    have hD : va_D A [(qa 11, .inl (cI, 2048, .inl (fun _ => 0))), (qa 12, .inl (cI, 128, .inl (fun _ => 0))), (qa 25, .inl (cZ, 8192, .inl fg__100)), (qa 46, .inl (cI, 4, .inl (fun _ => 0))), (qa 47, .inl (cI, 4, .inl (fun _ => 0))), (h, .inr (10, mdF qa x0 x2 x3 x4 1 0 x15 x16 0 (nI ro2_21) 0 0 x21 x22 (nI nn) x24 (-1) (-1) (-1)))] := hD
    refine lv_iconst (v := 0) hx hb dX11_beginRow_126 (by decide) ?_
    refine lv_istore_n (lv' := [(3, .int 0), (2, .int 0), (1, .int (nI ro2_21)), (0, .ref h)]) hx hb dX11_beginRow_127 rfl hl (by decide) rfl (fun ls hl => ?_)
    refine lv_iload_n hx hb dX11_beginRow_128 rfl (lv_at hl 0 rfl) ?_
    refine lv_iconst (v := 4) hx hb dX11_beginRow_129 (by decide) ?_
    refine lv_icmp_ge (tgt := 172) hx hb dX11_beginRow_130 (by decide) (fun c_130 => absurd c_130 (by decide)) (fun c_130 => ?_)
    refine lv_aload_n hx hb dX11_beginRow_133 rfl (lv_at hl 3 rfl) ?_
    refine va_get (D := (dC, dI)) (ci := 10) (v := .ref (qa 47)) (C := RX11) (T := TX11) (N := 53) hx hb hts iwX11 hown hK hP 5 rfl rfl 47 (by decide) (hts (.fieldLink RX11 104 "ModulePlayerModel" "cell" "[I") (List.mem_cons_of_mem _ kw_203)) (fun _ h9 => h9) rfl dX11_beginRow_134 ?_
    refine lv_iload_n hx hb dX11_beginRow_137 rfl (lv_at hl 0 rfl) ?_
    refine lv_aload_n hx hb dX11_beginRow_138 rfl (lv_at hl 3 rfl) ?_
    refine va_get (D := (dC, dI)) (ci := 10) (v := .ref (qa 11)) (C := RX11) (T := TX11) (N := 53) hx hb hts iwX11 hown hK hP 5 rfl rfl 11 (by decide) (hts (.fieldLink RX11 37 "ModulePlayerModel" "cells" "[I") (List.mem_cons_of_mem _ kw_180)) (fun _ h9 => h9) rfl dX11_beginRow_139 ?_
    refine lv_sipush (v := 256) hx hb dX11_beginRow_142 (by decide) ?_
    refine lv_aload_n hx hb dX11_beginRow_145 rfl (lv_at hl 3 rfl) ?_
    refine va_get (D := (dC, dI)) (ci := 10) (v := .ref (qa 12)) (C := RX11) (T := TX11) (N := 53) hx hb hts iwX11 hown hK hP 5 rfl rfl 12 (by decide) (hts (.fieldLink RX11 40 "ModulePlayerModel" "song" "[I") (List.mem_cons_of_mem _ kw_181)) (fun _ h9 => h9) rfl dX11_beginRow_146 ?_
    refine lv_aload_n hx hb dX11_beginRow_149 rfl (lv_at hl 3 rfl) ?_
    refine va_get (D := (dC, dI)) (ci := 10) (v := .int 0) (C := RX11) (T := TX11) (N := 53) hx hb hts iwX11 hown hK hP 5 rfl rfl 17 (by decide) (hts (.fieldLink RX11 203 "ModulePlayerModel" "place" "I") (List.mem_cons_of_mem _ kw_220)) (fun _ h9 => h9) rfl dX11_beginRow_150 ?_
    refine g_iald hx hb hK hP 1 0 rfl rfl 0 (by decide) (by unfold vp_in; decide) dX11_beginRow_153 ?_
    refine lv_imul hx hb dX11_beginRow_154 ?_
    refine g_topi (y := 0) (by decide) ?_
    refine lv_iconst (v := 4) hx hb dX11_beginRow_155 (by decide) ?_
    refine lv_aload_n hx hb dX11_beginRow_156 rfl (lv_at hl 3 rfl) ?_
    refine va_get (D := (dC, dI)) (ci := 10) (v := .int (nI ro2_21)) (C := RX11) (T := TX11) (N := 53) hx hb hts iwX11 hown hK hP 5 rfl rfl 18 (by decide) (hts (.fieldLink RX11 206 "ModulePlayerModel" "row" "I") (List.mem_cons_of_mem _ kw_221)) (fun _ h9 => h9) rfl dX11_beginRow_157 ?_
    refine lv_imul hx hb dX11_beginRow_160 ?_
    refine g_topi (y := nI (4 * ro2_21)) (pk_mul 4 _) ?_
    refine lv_iadd hx hb dX11_beginRow_161 ?_
    refine g_topi (y := nI (4 * ro2_21)) (Int32.zero_add _) ?_
    refine lv_iload_n hx hb dX11_beginRow_162 rfl (lv_at hl 0 rfl) ?_
    refine lv_iadd hx hb dX11_beginRow_163 ?_
    refine g_topi (y := nI (4 * ro2_21 + 0)) (nI_add _ 0) ?_
    refine g_iald hx hb hK hP 0 0 rfl rfl (4 * ro2_21 + 0) (nI_clamp (Nat.lt_trans (show 4 * ro2_21 + 0 < 2048 from by omega) (by decide))) (vp_in_nI (by omega) (by decide)) dX11_beginRow_164 ?_
    refine g_iast hx hb hK hP hD hS 4 0 rfl rfl 0 (by decide) (by unfold vp_in; decide) dX11_beginRow_165 (fun H locs hP hD hS => ?_)
    have hP : va_P (dC, dI) vwCl [(qa 11, .inl (cI, 2048, .inl (fun _ => 0))), (qa 12, .inl (cI, 128, .inl (fun _ => 0))), (qa 25, .inl (cZ, 8192, .inl fg__100)), (qa 46, .inl (cI, 4, .inl (fun _ => 0))), (qa 47, .inl (cI, 4, .inl (upd (fun _ => 0) 0 0))), (h, .inr (10, mdF qa x0 x2 x3 x4 1 0 x15 x16 0 (nI ro2_21) 0 0 x21 x22 (nI nn) x24 (-1) (-1) (-1)))] H := hP
    have hD : va_D A [(qa 11, .inl (cI, 2048, .inl (fun _ => 0))), (qa 12, .inl (cI, 128, .inl (fun _ => 0))), (qa 25, .inl (cZ, 8192, .inl fg__100)), (qa 46, .inl (cI, 4, .inl (fun _ => 0))), (qa 47, .inl (cI, 4, .inl (upd (fun _ => 0) 0 0))), (h, .inr (10, mdF qa x0 x2 x3 x4 1 0 x15 x16 0 (nI ro2_21) 0 0 x21 x22 (nI nn) x24 (-1) (-1) (-1)))] := hD
    have hfe_165 : upd (fun _ => 0) 0 0 = fun _ => 0 := upd_z _
    rw [hfe_165] at hP hD
    refine lv_iinc (v := 1) (lv' := [(3, .int 1), (2, .int 0), (1, .int (nI ro2_21)), (0, .ref h)]) hx hb dX11_beginRow_166 hl (k := 0) rfl (by decide) (by decide) rfl (fun ls hl => ?_)
    refine lv_goto (tgt := 128) hx hb dX11_beginRow_169 (by decide) ?_
    refine lv_iload_n hx hb dX11_beginRow_128 rfl (lv_at hl 0 rfl) ?_
    refine lv_iconst (v := 4) hx hb dX11_beginRow_129 (by decide) ?_
    refine lv_icmp_ge (tgt := 172) hx hb dX11_beginRow_130 (by decide) (fun c_130_2 => absurd c_130_2 (by decide)) (fun c_130_2 => ?_)
    refine lv_aload_n hx hb dX11_beginRow_133 rfl (lv_at hl 3 rfl) ?_
    refine va_get (D := (dC, dI)) (ci := 10) (v := .ref (qa 47)) (C := RX11) (T := TX11) (N := 53) hx hb hts iwX11 hown hK hP 5 rfl rfl 47 (by decide) (hts (.fieldLink RX11 104 "ModulePlayerModel" "cell" "[I") (List.mem_cons_of_mem _ kw_203)) (fun _ h9 => h9) rfl dX11_beginRow_134 ?_
    refine lv_iload_n hx hb dX11_beginRow_137 rfl (lv_at hl 0 rfl) ?_
    refine lv_aload_n hx hb dX11_beginRow_138 rfl (lv_at hl 3 rfl) ?_
    refine va_get (D := (dC, dI)) (ci := 10) (v := .ref (qa 11)) (C := RX11) (T := TX11) (N := 53) hx hb hts iwX11 hown hK hP 5 rfl rfl 11 (by decide) (hts (.fieldLink RX11 37 "ModulePlayerModel" "cells" "[I") (List.mem_cons_of_mem _ kw_180)) (fun _ h9 => h9) rfl dX11_beginRow_139 ?_
    refine lv_sipush (v := 256) hx hb dX11_beginRow_142 (by decide) ?_
    refine lv_aload_n hx hb dX11_beginRow_145 rfl (lv_at hl 3 rfl) ?_
    refine va_get (D := (dC, dI)) (ci := 10) (v := .ref (qa 12)) (C := RX11) (T := TX11) (N := 53) hx hb hts iwX11 hown hK hP 5 rfl rfl 12 (by decide) (hts (.fieldLink RX11 40 "ModulePlayerModel" "song" "[I") (List.mem_cons_of_mem _ kw_181)) (fun _ h9 => h9) rfl dX11_beginRow_146 ?_
    refine lv_aload_n hx hb dX11_beginRow_149 rfl (lv_at hl 3 rfl) ?_
    refine va_get (D := (dC, dI)) (ci := 10) (v := .int 0) (C := RX11) (T := TX11) (N := 53) hx hb hts iwX11 hown hK hP 5 rfl rfl 17 (by decide) (hts (.fieldLink RX11 203 "ModulePlayerModel" "place" "I") (List.mem_cons_of_mem _ kw_220)) (fun _ h9 => h9) rfl dX11_beginRow_150 ?_
    refine g_iald hx hb hK hP 1 0 rfl rfl 0 (by decide) (by unfold vp_in; decide) dX11_beginRow_153 ?_
    refine lv_imul hx hb dX11_beginRow_154 ?_
    refine g_topi (y := 0) (by decide) ?_
    refine lv_iconst (v := 4) hx hb dX11_beginRow_155 (by decide) ?_
    refine lv_aload_n hx hb dX11_beginRow_156 rfl (lv_at hl 3 rfl) ?_
    refine va_get (D := (dC, dI)) (ci := 10) (v := .int (nI ro2_21)) (C := RX11) (T := TX11) (N := 53) hx hb hts iwX11 hown hK hP 5 rfl rfl 18 (by decide) (hts (.fieldLink RX11 206 "ModulePlayerModel" "row" "I") (List.mem_cons_of_mem _ kw_221)) (fun _ h9 => h9) rfl dX11_beginRow_157 ?_
    refine lv_imul hx hb dX11_beginRow_160 ?_
    refine g_topi (y := nI (4 * ro2_21)) (pk_mul 4 _) ?_
    refine lv_iadd hx hb dX11_beginRow_161 ?_
    refine g_topi (y := nI (4 * ro2_21)) (Int32.zero_add _) ?_
    refine lv_iload_n hx hb dX11_beginRow_162 rfl (lv_at hl 0 rfl) ?_
    refine lv_iadd hx hb dX11_beginRow_163 ?_
    refine g_topi (y := nI (4 * ro2_21 + 1)) (nI_add _ 1) ?_
    refine g_iald hx hb hK hP 0 0 rfl rfl (4 * ro2_21 + 1) (nI_clamp (Nat.lt_trans (show 4 * ro2_21 + 1 < 2048 from by omega) (by decide))) (vp_in_nI (by omega) (by decide)) dX11_beginRow_164 ?_
    refine g_iast hx hb hK hP hD hS 4 0 rfl rfl 1 (by decide) (by unfold vp_in; decide) dX11_beginRow_165 (fun H locs hP hD hS => ?_)
    have hP : va_P (dC, dI) vwCl [(qa 11, .inl (cI, 2048, .inl (fun _ => 0))), (qa 12, .inl (cI, 128, .inl (fun _ => 0))), (qa 25, .inl (cZ, 8192, .inl fg__100)), (qa 46, .inl (cI, 4, .inl (fun _ => 0))), (qa 47, .inl (cI, 4, .inl (upd (fun _ => 0) 1 0))), (h, .inr (10, mdF qa x0 x2 x3 x4 1 0 x15 x16 0 (nI ro2_21) 0 0 x21 x22 (nI nn) x24 (-1) (-1) (-1)))] H := hP
    have hD : va_D A [(qa 11, .inl (cI, 2048, .inl (fun _ => 0))), (qa 12, .inl (cI, 128, .inl (fun _ => 0))), (qa 25, .inl (cZ, 8192, .inl fg__100)), (qa 46, .inl (cI, 4, .inl (fun _ => 0))), (qa 47, .inl (cI, 4, .inl (upd (fun _ => 0) 1 0))), (h, .inr (10, mdF qa x0 x2 x3 x4 1 0 x15 x16 0 (nI ro2_21) 0 0 x21 x22 (nI nn) x24 (-1) (-1) (-1)))] := hD
    have hfe_165 : upd (fun _ => 0) 1 0 = fun _ => 0 := upd_z _
    rw [hfe_165] at hP hD
    refine lv_iinc (v := 2) (lv' := [(3, .int 2), (2, .int 0), (1, .int (nI ro2_21)), (0, .ref h)]) hx hb dX11_beginRow_166 hl (k := 0) rfl (by decide) (by decide) rfl (fun ls hl => ?_)
    refine lv_goto (tgt := 128) hx hb dX11_beginRow_169 (by decide) ?_
    refine lv_iload_n hx hb dX11_beginRow_128 rfl (lv_at hl 0 rfl) ?_
    refine lv_iconst (v := 4) hx hb dX11_beginRow_129 (by decide) ?_
    refine lv_icmp_ge (tgt := 172) hx hb dX11_beginRow_130 (by decide) (fun c_130_3 => absurd c_130_3 (by decide)) (fun c_130_3 => ?_)
    refine lv_aload_n hx hb dX11_beginRow_133 rfl (lv_at hl 3 rfl) ?_
    refine va_get (D := (dC, dI)) (ci := 10) (v := .ref (qa 47)) (C := RX11) (T := TX11) (N := 53) hx hb hts iwX11 hown hK hP 5 rfl rfl 47 (by decide) (hts (.fieldLink RX11 104 "ModulePlayerModel" "cell" "[I") (List.mem_cons_of_mem _ kw_203)) (fun _ h9 => h9) rfl dX11_beginRow_134 ?_
    refine lv_iload_n hx hb dX11_beginRow_137 rfl (lv_at hl 0 rfl) ?_
    refine lv_aload_n hx hb dX11_beginRow_138 rfl (lv_at hl 3 rfl) ?_
    refine va_get (D := (dC, dI)) (ci := 10) (v := .ref (qa 11)) (C := RX11) (T := TX11) (N := 53) hx hb hts iwX11 hown hK hP 5 rfl rfl 11 (by decide) (hts (.fieldLink RX11 37 "ModulePlayerModel" "cells" "[I") (List.mem_cons_of_mem _ kw_180)) (fun _ h9 => h9) rfl dX11_beginRow_139 ?_
    refine lv_sipush (v := 256) hx hb dX11_beginRow_142 (by decide) ?_
    refine lv_aload_n hx hb dX11_beginRow_145 rfl (lv_at hl 3 rfl) ?_
    refine va_get (D := (dC, dI)) (ci := 10) (v := .ref (qa 12)) (C := RX11) (T := TX11) (N := 53) hx hb hts iwX11 hown hK hP 5 rfl rfl 12 (by decide) (hts (.fieldLink RX11 40 "ModulePlayerModel" "song" "[I") (List.mem_cons_of_mem _ kw_181)) (fun _ h9 => h9) rfl dX11_beginRow_146 ?_
    refine lv_aload_n hx hb dX11_beginRow_149 rfl (lv_at hl 3 rfl) ?_
    refine va_get (D := (dC, dI)) (ci := 10) (v := .int 0) (C := RX11) (T := TX11) (N := 53) hx hb hts iwX11 hown hK hP 5 rfl rfl 17 (by decide) (hts (.fieldLink RX11 203 "ModulePlayerModel" "place" "I") (List.mem_cons_of_mem _ kw_220)) (fun _ h9 => h9) rfl dX11_beginRow_150 ?_
    refine g_iald hx hb hK hP 1 0 rfl rfl 0 (by decide) (by unfold vp_in; decide) dX11_beginRow_153 ?_
    refine lv_imul hx hb dX11_beginRow_154 ?_
    refine g_topi (y := 0) (by decide) ?_
    refine lv_iconst (v := 4) hx hb dX11_beginRow_155 (by decide) ?_
    refine lv_aload_n hx hb dX11_beginRow_156 rfl (lv_at hl 3 rfl) ?_
    refine va_get (D := (dC, dI)) (ci := 10) (v := .int (nI ro2_21)) (C := RX11) (T := TX11) (N := 53) hx hb hts iwX11 hown hK hP 5 rfl rfl 18 (by decide) (hts (.fieldLink RX11 206 "ModulePlayerModel" "row" "I") (List.mem_cons_of_mem _ kw_221)) (fun _ h9 => h9) rfl dX11_beginRow_157 ?_
    refine lv_imul hx hb dX11_beginRow_160 ?_
    refine g_topi (y := nI (4 * ro2_21)) (pk_mul 4 _) ?_
    refine lv_iadd hx hb dX11_beginRow_161 ?_
    refine g_topi (y := nI (4 * ro2_21)) (Int32.zero_add _) ?_
    refine lv_iload_n hx hb dX11_beginRow_162 rfl (lv_at hl 0 rfl) ?_
    refine lv_iadd hx hb dX11_beginRow_163 ?_
    refine g_topi (y := nI (4 * ro2_21 + 2)) (nI_add _ 2) ?_
    refine g_iald hx hb hK hP 0 0 rfl rfl (4 * ro2_21 + 2) (nI_clamp (Nat.lt_trans (show 4 * ro2_21 + 2 < 2048 from by omega) (by decide))) (vp_in_nI (by omega) (by decide)) dX11_beginRow_164 ?_
    refine g_iast hx hb hK hP hD hS 4 0 rfl rfl 2 (by decide) (by unfold vp_in; decide) dX11_beginRow_165 (fun H locs hP hD hS => ?_)
    have hP : va_P (dC, dI) vwCl [(qa 11, .inl (cI, 2048, .inl (fun _ => 0))), (qa 12, .inl (cI, 128, .inl (fun _ => 0))), (qa 25, .inl (cZ, 8192, .inl fg__100)), (qa 46, .inl (cI, 4, .inl (fun _ => 0))), (qa 47, .inl (cI, 4, .inl (upd (fun _ => 0) 2 0))), (h, .inr (10, mdF qa x0 x2 x3 x4 1 0 x15 x16 0 (nI ro2_21) 0 0 x21 x22 (nI nn) x24 (-1) (-1) (-1)))] H := hP
    have hD : va_D A [(qa 11, .inl (cI, 2048, .inl (fun _ => 0))), (qa 12, .inl (cI, 128, .inl (fun _ => 0))), (qa 25, .inl (cZ, 8192, .inl fg__100)), (qa 46, .inl (cI, 4, .inl (fun _ => 0))), (qa 47, .inl (cI, 4, .inl (upd (fun _ => 0) 2 0))), (h, .inr (10, mdF qa x0 x2 x3 x4 1 0 x15 x16 0 (nI ro2_21) 0 0 x21 x22 (nI nn) x24 (-1) (-1) (-1)))] := hD
    have hfe_165 : upd (fun _ => 0) 2 0 = fun _ => 0 := upd_z _
    rw [hfe_165] at hP hD
    refine lv_iinc (v := 3) (lv' := [(3, .int 3), (2, .int 0), (1, .int (nI ro2_21)), (0, .ref h)]) hx hb dX11_beginRow_166 hl (k := 0) rfl (by decide) (by decide) rfl (fun ls hl => ?_)
    refine lv_goto (tgt := 128) hx hb dX11_beginRow_169 (by decide) ?_
    refine lv_iload_n hx hb dX11_beginRow_128 rfl (lv_at hl 0 rfl) ?_
    refine lv_iconst (v := 4) hx hb dX11_beginRow_129 (by decide) ?_
    refine lv_icmp_ge (tgt := 172) hx hb dX11_beginRow_130 (by decide) (fun c_130_4 => absurd c_130_4 (by decide)) (fun c_130_4 => ?_)
    refine lv_aload_n hx hb dX11_beginRow_133 rfl (lv_at hl 3 rfl) ?_
    refine va_get (D := (dC, dI)) (ci := 10) (v := .ref (qa 47)) (C := RX11) (T := TX11) (N := 53) hx hb hts iwX11 hown hK hP 5 rfl rfl 47 (by decide) (hts (.fieldLink RX11 104 "ModulePlayerModel" "cell" "[I") (List.mem_cons_of_mem _ kw_203)) (fun _ h9 => h9) rfl dX11_beginRow_134 ?_
    refine lv_iload_n hx hb dX11_beginRow_137 rfl (lv_at hl 0 rfl) ?_
    refine lv_aload_n hx hb dX11_beginRow_138 rfl (lv_at hl 3 rfl) ?_
    refine va_get (D := (dC, dI)) (ci := 10) (v := .ref (qa 11)) (C := RX11) (T := TX11) (N := 53) hx hb hts iwX11 hown hK hP 5 rfl rfl 11 (by decide) (hts (.fieldLink RX11 37 "ModulePlayerModel" "cells" "[I") (List.mem_cons_of_mem _ kw_180)) (fun _ h9 => h9) rfl dX11_beginRow_139 ?_
    refine lv_sipush (v := 256) hx hb dX11_beginRow_142 (by decide) ?_
    refine lv_aload_n hx hb dX11_beginRow_145 rfl (lv_at hl 3 rfl) ?_
    refine va_get (D := (dC, dI)) (ci := 10) (v := .ref (qa 12)) (C := RX11) (T := TX11) (N := 53) hx hb hts iwX11 hown hK hP 5 rfl rfl 12 (by decide) (hts (.fieldLink RX11 40 "ModulePlayerModel" "song" "[I") (List.mem_cons_of_mem _ kw_181)) (fun _ h9 => h9) rfl dX11_beginRow_146 ?_
    refine lv_aload_n hx hb dX11_beginRow_149 rfl (lv_at hl 3 rfl) ?_
    refine va_get (D := (dC, dI)) (ci := 10) (v := .int 0) (C := RX11) (T := TX11) (N := 53) hx hb hts iwX11 hown hK hP 5 rfl rfl 17 (by decide) (hts (.fieldLink RX11 203 "ModulePlayerModel" "place" "I") (List.mem_cons_of_mem _ kw_220)) (fun _ h9 => h9) rfl dX11_beginRow_150 ?_
    refine g_iald hx hb hK hP 1 0 rfl rfl 0 (by decide) (by unfold vp_in; decide) dX11_beginRow_153 ?_
    refine lv_imul hx hb dX11_beginRow_154 ?_
    refine g_topi (y := 0) (by decide) ?_
    refine lv_iconst (v := 4) hx hb dX11_beginRow_155 (by decide) ?_
    refine lv_aload_n hx hb dX11_beginRow_156 rfl (lv_at hl 3 rfl) ?_
    refine va_get (D := (dC, dI)) (ci := 10) (v := .int (nI ro2_21)) (C := RX11) (T := TX11) (N := 53) hx hb hts iwX11 hown hK hP 5 rfl rfl 18 (by decide) (hts (.fieldLink RX11 206 "ModulePlayerModel" "row" "I") (List.mem_cons_of_mem _ kw_221)) (fun _ h9 => h9) rfl dX11_beginRow_157 ?_
    refine lv_imul hx hb dX11_beginRow_160 ?_
    refine g_topi (y := nI (4 * ro2_21)) (pk_mul 4 _) ?_
    refine lv_iadd hx hb dX11_beginRow_161 ?_
    refine g_topi (y := nI (4 * ro2_21)) (Int32.zero_add _) ?_
    refine lv_iload_n hx hb dX11_beginRow_162 rfl (lv_at hl 0 rfl) ?_
    refine lv_iadd hx hb dX11_beginRow_163 ?_
    refine g_topi (y := nI (4 * ro2_21 + 3)) (nI_add _ 3) ?_
    refine g_iald hx hb hK hP 0 0 rfl rfl (4 * ro2_21 + 3) (nI_clamp (Nat.lt_trans (show 4 * ro2_21 + 3 < 2048 from by omega) (by decide))) (vp_in_nI (by omega) (by decide)) dX11_beginRow_164 ?_
    refine g_iast hx hb hK hP hD hS 4 0 rfl rfl 3 (by decide) (by unfold vp_in; decide) dX11_beginRow_165 (fun H locs hP hD hS => ?_)
    have hP : va_P (dC, dI) vwCl [(qa 11, .inl (cI, 2048, .inl (fun _ => 0))), (qa 12, .inl (cI, 128, .inl (fun _ => 0))), (qa 25, .inl (cZ, 8192, .inl fg__100)), (qa 46, .inl (cI, 4, .inl (fun _ => 0))), (qa 47, .inl (cI, 4, .inl (upd (fun _ => 0) 3 0))), (h, .inr (10, mdF qa x0 x2 x3 x4 1 0 x15 x16 0 (nI ro2_21) 0 0 x21 x22 (nI nn) x24 (-1) (-1) (-1)))] H := hP
    have hD : va_D A [(qa 11, .inl (cI, 2048, .inl (fun _ => 0))), (qa 12, .inl (cI, 128, .inl (fun _ => 0))), (qa 25, .inl (cZ, 8192, .inl fg__100)), (qa 46, .inl (cI, 4, .inl (fun _ => 0))), (qa 47, .inl (cI, 4, .inl (upd (fun _ => 0) 3 0))), (h, .inr (10, mdF qa x0 x2 x3 x4 1 0 x15 x16 0 (nI ro2_21) 0 0 x21 x22 (nI nn) x24 (-1) (-1) (-1)))] := hD
    have hfe_165 : upd (fun _ => 0) 3 0 = fun _ => 0 := upd_z _
    rw [hfe_165] at hP hD
    refine lv_iinc (v := 4) (lv' := [(3, .int 4), (2, .int 0), (1, .int (nI ro2_21)), (0, .ref h)]) hx hb dX11_beginRow_166 hl (k := 0) rfl (by decide) (by decide) rfl (fun ls hl => ?_)
    refine lv_goto (tgt := 128) hx hb dX11_beginRow_169 (by decide) ?_
    refine lv_iload_n hx hb dX11_beginRow_128 rfl (lv_at hl 0 rfl) ?_
    refine lv_iconst (v := 4) hx hb dX11_beginRow_129 (by decide) ?_
    refine lv_icmp_ge (tgt := 172) hx hb dX11_beginRow_130 (by decide) (fun c_130_5 => ?_) (fun c_130_5 => absurd c_130_5 (by decide))
    have hP9 := hP.sub (ws' := [(h, .inr (10, mdF qa x0 x2 x3 x4 1 0 x15 x16 0 (nI ro2_21) 0 0 x21 x22 (nI nn) x24 (-1) (-1) (-1))), (qa 11, .inl (cI, 2048, .inl (fun _ => 0))), (qa 12, .inl (cI, 128, .inl (fun _ => 0))), (qa 25, .inl (cZ, 8192, .inl fg__100)), (qa 46, .inl (cI, 4, .inl (fun _ => 0))), (qa 47, .inl (cI, 4, .inl (fun _ => 0)))]) [5, 0, 1, 2, 3, 4] rfl
    have hD9 := hD.sub (ws' := [(h, .inr (10, mdF qa x0 x2 x3 x4 1 0 x15 x16 0 (nI ro2_21) 0 0 x21 x22 (nI nn) x24 (-1) (-1) (-1))), (qa 11, .inl (cI, 2048, .inl (fun _ => 0))), (qa 12, .inl (cI, 128, .inl (fun _ => 0))), (qa 25, .inl (cZ, 8192, .inl fg__100)), (qa 46, .inl (cI, 4, .inl (fun _ => 0))), (qa 47, .inl (cI, 4, .inl (fun _ => 0)))]) [5, 0, 1, 2, 3, 4] (by decide) rfl
    have hK9 := hK.sub (tys' := []) [] rfl
    exact W.vret hx hb hr (fun t ht hW => ⟨⟨([(h, .inr (10, mdF qa x0 x2 x3 x4 1 0 x15 x16 0 (nI ro2_21) 0 0 x21 x22 (nI nn) x24 (-1) (-1) (-1))), (qa 11, .inl (cI, 2048, .inl (fun _ => 0))), (qa 12, .inl (cI, 128, .inl (fun _ => 0))), (qa 25, .inl (cZ, 8192, .inl fg__100)), (qa 46, .inl (cI, 4, .inl (fun _ => 0))), (qa 47, .inl (cI, 4, .inl (fun _ => 0)))], []), rfl, ⟨ro2_21, x21, fg__100, rfl, hro2_21⟩, by rw [ht]; exact hP9, va_K.moved hW.alike hK9, hD9⟩, hS.F ht⟩) hS.2.2 dX11_beginRow_172
  refine lv_aload_n hx hb dX11_beginRow_84 rfl (lv_at hl 3 rfl) ?_
  refine lv_dup hx hb dX11_beginRow_85 rfl ?_
  refine va_get (D := (dC, dI)) (ci := 10) (v := .int x21) (C := RX11) (T := TX11) (N := 53) hx hb hts iwX11 hown hK hP 5 rfl rfl 21 (by decide) (hts (.fieldLink RX11 218 "ModulePlayerModel" "again" "I") (List.mem_cons_of_mem _ kw_225)) (fun _ h9 => h9) rfl dX11_beginRow_86 ?_
  refine lv_iconst (v := 1) hx hb dX11_beginRow_89 (by decide) ?_
  refine lv_iadd hx hb dX11_beginRow_90 ?_
  refine lv_topi (fun ag_ eag_ => ?_)
  refine va_put (D := (dC, dI)) (ci := 10) (v := .int ag_) (ty := tyX11 21) (C := RX11) (T := TX11) (N := 53) hx hb hts iwX11 tyX11 tyX11_ok nmX11 hown hK hP hD hS 5 rfl rfl 21 (by decide) (hts (.fieldLink RX11 218 "ModulePlayerModel" "again" "I") (List.mem_cons_of_mem _ kw_225)) (fun _ h9 => h9) rfl (by decide +kernel) (rfl) (rfl) (Nat.le_of_ble_eq_true rfl) dX11_beginRow_91 (fun H locs hP hD hS => ?_)
  have hP : va_P (dC, dI) vwCl [(qa 11, .inl (cI, 2048, .inl (fun _ => 0))), (qa 12, .inl (cI, 128, .inl (fun _ => 0))), (qa 25, .inl (cZ, 8192, .inl fz)), (qa 46, .inl (cI, 4, .inl (fun _ => 0))), (qa 47, .inl (cI, 4, .inl (fun _ => 0))), (h, .inr (10, mdF qa x0 x2 x3 x4 1 0 x15 x16 0 (nI ro2_21) x19 x20 ag_ x22 (nI nn) x24 (-1) (-1) (-1)))] H := hP
  have hD : va_D A [(qa 11, .inl (cI, 2048, .inl (fun _ => 0))), (qa 12, .inl (cI, 128, .inl (fun _ => 0))), (qa 25, .inl (cZ, 8192, .inl fz)), (qa 46, .inl (cI, 4, .inl (fun _ => 0))), (qa 47, .inl (cI, 4, .inl (fun _ => 0))), (h, .inr (10, mdF qa x0 x2 x3 x4 1 0 x15 x16 0 (nI ro2_21) x19 x20 ag_ x22 (nI nn) x24 (-1) (-1) (-1)))] := hD
  refine lv_aload_n hx hb dX11_beginRow_94 rfl (lv_at hl 3 rfl) ?_
  refine va_get (D := (dC, dI)) (ci := 10) (v := .ref (qa 25)) (C := RX11) (T := TX11) (N := 53) hx hb hts iwX11 hown hK hP 5 rfl rfl 25 (by decide) (hts (.fieldLink RX11 46 "ModulePlayerModel" "begun" "[Z") (List.mem_cons_of_mem _ kw_184)) (fun _ h9 => h9) rfl dX11_beginRow_95 ?_
  refine lv_iload_n hx hb dX11_beginRow_98 rfl (lv_at hl 2 rfl) ?_
  refine lv_iconst (v := 1) hx hb dX11_beginRow_99 (by decide) ?_
  refine g_zast hx hb hK hP hD hS 2 1 rfl rfl (x' := 1) (by decide) ro2_21 (nI_clamp (Nat.lt_trans (show ro2_21 < 8192 from by omega) (by decide))) (vp_in_nI (by omega) (by decide)) dX11_beginRow_100 (fun H locs hP hD hS => ?_)
  have hP : va_P (dC, dI) vwCl [(qa 11, .inl (cI, 2048, .inl (fun _ => 0))), (qa 12, .inl (cI, 128, .inl (fun _ => 0))), (qa 25, .inl (cZ, 8192, .inl (upd fz ro2_21 1))), (qa 46, .inl (cI, 4, .inl (fun _ => 0))), (qa 47, .inl (cI, 4, .inl (fun _ => 0))), (h, .inr (10, mdF qa x0 x2 x3 x4 1 0 x15 x16 0 (nI ro2_21) x19 x20 ag_ x22 (nI nn) x24 (-1) (-1) (-1)))] H := hP
  have hD : va_D A [(qa 11, .inl (cI, 2048, .inl (fun _ => 0))), (qa 12, .inl (cI, 128, .inl (fun _ => 0))), (qa 25, .inl (cZ, 8192, .inl (upd fz ro2_21 1))), (qa 46, .inl (cI, 4, .inl (fun _ => 0))), (qa 47, .inl (cI, 4, .inl (fun _ => 0))), (h, .inr (10, mdF qa x0 x2 x3 x4 1 0 x15 x16 0 (nI ro2_21) x19 x20 ag_ x22 (nI nn) x24 (-1) (-1) (-1)))] := hD
  generalize upd fz ro2_21 1 = fg__100 at hP hD
  refine lv_aload_n hx hb dX11_beginRow_101 rfl (lv_at hl 3 rfl) ?_
  refine lv_iconst (v := 0) hx hb dX11_beginRow_102 (by decide) ?_
  refine va_put (D := (dC, dI)) (ci := 10) (v := .int 0) (ty := tyX11 19) (C := RX11) (T := TX11) (N := 53) hx hb hts iwX11 tyX11 tyX11_ok nmX11 hown hK hP hD hS 5 rfl rfl 19 (by decide) (hts (.fieldLink RX11 209 "ModulePlayerModel" "tick" "I") (List.mem_cons_of_mem _ kw_222)) (fun _ h9 => h9) rfl (by decide +kernel) (rfl) (rfl) (Nat.le_of_ble_eq_true rfl) dX11_beginRow_103 (fun H locs hP hD hS => ?_)
  have hP : va_P (dC, dI) vwCl [(qa 11, .inl (cI, 2048, .inl (fun _ => 0))), (qa 12, .inl (cI, 128, .inl (fun _ => 0))), (qa 25, .inl (cZ, 8192, .inl fg__100)), (qa 46, .inl (cI, 4, .inl (fun _ => 0))), (qa 47, .inl (cI, 4, .inl (fun _ => 0))), (h, .inr (10, mdF qa x0 x2 x3 x4 1 0 x15 x16 0 (nI ro2_21) 0 x20 ag_ x22 (nI nn) x24 (-1) (-1) (-1)))] H := hP
  have hD : va_D A [(qa 11, .inl (cI, 2048, .inl (fun _ => 0))), (qa 12, .inl (cI, 128, .inl (fun _ => 0))), (qa 25, .inl (cZ, 8192, .inl fg__100)), (qa 46, .inl (cI, 4, .inl (fun _ => 0))), (qa 47, .inl (cI, 4, .inl (fun _ => 0))), (h, .inr (10, mdF qa x0 x2 x3 x4 1 0 x15 x16 0 (nI ro2_21) 0 x20 ag_ x22 (nI nn) x24 (-1) (-1) (-1)))] := hD
  refine lv_aload_n hx hb dX11_beginRow_106 rfl (lv_at hl 3 rfl) ?_
  refine lv_iconst (v := 0) hx hb dX11_beginRow_107 (by decide) ?_
  refine va_put (D := (dC, dI)) (ci := 10) (v := .int 0) (ty := tyX11 20) (C := RX11) (T := TX11) (N := 53) hx hb hts iwX11 tyX11 tyX11_ok nmX11 hown hK hP hD hS 5 rfl rfl 20 (by decide) (hts (.fieldLink RX11 215 "ModulePlayerModel" "delay" "I") (List.mem_cons_of_mem _ kw_224)) (fun _ h9 => h9) rfl (by decide +kernel) (rfl) (rfl) (Nat.le_of_ble_eq_true rfl) dX11_beginRow_108 (fun H locs hP hD hS => ?_)
  have hP : va_P (dC, dI) vwCl [(qa 11, .inl (cI, 2048, .inl (fun _ => 0))), (qa 12, .inl (cI, 128, .inl (fun _ => 0))), (qa 25, .inl (cZ, 8192, .inl fg__100)), (qa 46, .inl (cI, 4, .inl (fun _ => 0))), (qa 47, .inl (cI, 4, .inl (fun _ => 0))), (h, .inr (10, mdF qa x0 x2 x3 x4 1 0 x15 x16 0 (nI ro2_21) 0 0 ag_ x22 (nI nn) x24 (-1) (-1) (-1)))] H := hP
  have hD : va_D A [(qa 11, .inl (cI, 2048, .inl (fun _ => 0))), (qa 12, .inl (cI, 128, .inl (fun _ => 0))), (qa 25, .inl (cZ, 8192, .inl fg__100)), (qa 46, .inl (cI, 4, .inl (fun _ => 0))), (qa 47, .inl (cI, 4, .inl (fun _ => 0))), (h, .inr (10, mdF qa x0 x2 x3 x4 1 0 x15 x16 0 (nI ro2_21) 0 0 ag_ x22 (nI nn) x24 (-1) (-1) (-1)))] := hD
  refine lv_aload_n hx hb dX11_beginRow_111 rfl (lv_at hl 3 rfl) ?_
  refine lv_iconst (v := (-1)) hx hb dX11_beginRow_112 (by decide) ?_
  refine va_put (D := (dC, dI)) (ci := 10) (v := .int (-1)) (ty := tyX11 26) (C := RX11) (T := TX11) (N := 53) hx hb hts iwX11 tyX11 tyX11_ok nmX11 hown hK hP hD hS 5 rfl rfl 26 (by decide) (hts (.fieldLink RX11 245 "ModulePlayerModel" "jump" "I") (List.mem_cons_of_mem _ kw_841)) (fun _ h9 => h9) rfl (by decide +kernel) (rfl) (rfl) (Nat.le_of_ble_eq_true rfl) dX11_beginRow_113 (fun H locs hP hD hS => ?_)
  have hP : va_P (dC, dI) vwCl [(qa 11, .inl (cI, 2048, .inl (fun _ => 0))), (qa 12, .inl (cI, 128, .inl (fun _ => 0))), (qa 25, .inl (cZ, 8192, .inl fg__100)), (qa 46, .inl (cI, 4, .inl (fun _ => 0))), (qa 47, .inl (cI, 4, .inl (fun _ => 0))), (h, .inr (10, mdF qa x0 x2 x3 x4 1 0 x15 x16 0 (nI ro2_21) 0 0 ag_ x22 (nI nn) x24 (-1) (-1) (-1)))] H := hP
  have hD : va_D A [(qa 11, .inl (cI, 2048, .inl (fun _ => 0))), (qa 12, .inl (cI, 128, .inl (fun _ => 0))), (qa 25, .inl (cZ, 8192, .inl fg__100)), (qa 46, .inl (cI, 4, .inl (fun _ => 0))), (qa 47, .inl (cI, 4, .inl (fun _ => 0))), (h, .inr (10, mdF qa x0 x2 x3 x4 1 0 x15 x16 0 (nI ro2_21) 0 0 ag_ x22 (nI nn) x24 (-1) (-1) (-1)))] := hD
  refine lv_aload_n hx hb dX11_beginRow_116 rfl (lv_at hl 3 rfl) ?_
  refine lv_iconst (v := (-1)) hx hb dX11_beginRow_117 (by decide) ?_
  refine va_put (D := (dC, dI)) (ci := 10) (v := .int (-1)) (ty := tyX11 27) (C := RX11) (T := TX11) (N := 53) hx hb hts iwX11 tyX11 tyX11_ok nmX11 hown hK hP hD hS 5 rfl rfl 27 (by decide) (hts (.fieldLink RX11 248 "ModulePlayerModel" "stop" "I") (List.mem_cons_of_mem _ kw_842)) (fun _ h9 => h9) rfl (by decide +kernel) (rfl) (rfl) (Nat.le_of_ble_eq_true rfl) dX11_beginRow_118 (fun H locs hP hD hS => ?_)
  have hP : va_P (dC, dI) vwCl [(qa 11, .inl (cI, 2048, .inl (fun _ => 0))), (qa 12, .inl (cI, 128, .inl (fun _ => 0))), (qa 25, .inl (cZ, 8192, .inl fg__100)), (qa 46, .inl (cI, 4, .inl (fun _ => 0))), (qa 47, .inl (cI, 4, .inl (fun _ => 0))), (h, .inr (10, mdF qa x0 x2 x3 x4 1 0 x15 x16 0 (nI ro2_21) 0 0 ag_ x22 (nI nn) x24 (-1) (-1) (-1)))] H := hP
  have hD : va_D A [(qa 11, .inl (cI, 2048, .inl (fun _ => 0))), (qa 12, .inl (cI, 128, .inl (fun _ => 0))), (qa 25, .inl (cZ, 8192, .inl fg__100)), (qa 46, .inl (cI, 4, .inl (fun _ => 0))), (qa 47, .inl (cI, 4, .inl (fun _ => 0))), (h, .inr (10, mdF qa x0 x2 x3 x4 1 0 x15 x16 0 (nI ro2_21) 0 0 ag_ x22 (nI nn) x24 (-1) (-1) (-1)))] := hD
  refine lv_aload_n hx hb dX11_beginRow_121 rfl (lv_at hl 3 rfl) ?_
  refine lv_iconst (v := (-1)) hx hb dX11_beginRow_122 (by decide) ?_
  refine va_put (D := (dC, dI)) (ci := 10) (v := .int (-1)) (ty := tyX11 28) (C := RX11) (T := TX11) (N := 53) hx hb hts iwX11 tyX11 tyX11_ok nmX11 hown hK hP hD hS 5 rfl rfl 28 (by decide) (hts (.fieldLink RX11 242 "ModulePlayerModel" "loopTo" "I") (List.mem_cons_of_mem _ kw_843)) (fun _ h9 => h9) rfl (by decide +kernel) (rfl) (rfl) (Nat.le_of_ble_eq_true rfl) dX11_beginRow_123 (fun H locs hP hD hS => ?_)
  have hP : va_P (dC, dI) vwCl [(qa 11, .inl (cI, 2048, .inl (fun _ => 0))), (qa 12, .inl (cI, 128, .inl (fun _ => 0))), (qa 25, .inl (cZ, 8192, .inl fg__100)), (qa 46, .inl (cI, 4, .inl (fun _ => 0))), (qa 47, .inl (cI, 4, .inl (fun _ => 0))), (h, .inr (10, mdF qa x0 x2 x3 x4 1 0 x15 x16 0 (nI ro2_21) 0 0 ag_ x22 (nI nn) x24 (-1) (-1) (-1)))] H := hP
  have hD : va_D A [(qa 11, .inl (cI, 2048, .inl (fun _ => 0))), (qa 12, .inl (cI, 128, .inl (fun _ => 0))), (qa 25, .inl (cZ, 8192, .inl fg__100)), (qa 46, .inl (cI, 4, .inl (fun _ => 0))), (qa 47, .inl (cI, 4, .inl (fun _ => 0))), (h, .inr (10, mdF qa x0 x2 x3 x4 1 0 x15 x16 0 (nI ro2_21) 0 0 ag_ x22 (nI nn) x24 (-1) (-1) (-1)))] := hD
  refine lv_iconst (v := 0) hx hb dX11_beginRow_126 (by decide) ?_
  refine lv_istore_n (lv' := [(3, .int 0), (2, .int 0), (1, .int (nI ro2_21)), (0, .ref h)]) hx hb dX11_beginRow_127 rfl hl (by decide) rfl (fun ls hl => ?_)
  refine lv_iload_n hx hb dX11_beginRow_128 rfl (lv_at hl 0 rfl) ?_
  refine lv_iconst (v := 4) hx hb dX11_beginRow_129 (by decide) ?_
  refine lv_icmp_ge (tgt := 172) hx hb dX11_beginRow_130 (by decide) (fun c_130 => absurd c_130 (by decide)) (fun c_130 => ?_)
  refine lv_aload_n hx hb dX11_beginRow_133 rfl (lv_at hl 3 rfl) ?_
  refine va_get (D := (dC, dI)) (ci := 10) (v := .ref (qa 47)) (C := RX11) (T := TX11) (N := 53) hx hb hts iwX11 hown hK hP 5 rfl rfl 47 (by decide) (hts (.fieldLink RX11 104 "ModulePlayerModel" "cell" "[I") (List.mem_cons_of_mem _ kw_203)) (fun _ h9 => h9) rfl dX11_beginRow_134 ?_
  refine lv_iload_n hx hb dX11_beginRow_137 rfl (lv_at hl 0 rfl) ?_
  refine lv_aload_n hx hb dX11_beginRow_138 rfl (lv_at hl 3 rfl) ?_
  refine va_get (D := (dC, dI)) (ci := 10) (v := .ref (qa 11)) (C := RX11) (T := TX11) (N := 53) hx hb hts iwX11 hown hK hP 5 rfl rfl 11 (by decide) (hts (.fieldLink RX11 37 "ModulePlayerModel" "cells" "[I") (List.mem_cons_of_mem _ kw_180)) (fun _ h9 => h9) rfl dX11_beginRow_139 ?_
  refine lv_sipush (v := 256) hx hb dX11_beginRow_142 (by decide) ?_
  refine lv_aload_n hx hb dX11_beginRow_145 rfl (lv_at hl 3 rfl) ?_
  refine va_get (D := (dC, dI)) (ci := 10) (v := .ref (qa 12)) (C := RX11) (T := TX11) (N := 53) hx hb hts iwX11 hown hK hP 5 rfl rfl 12 (by decide) (hts (.fieldLink RX11 40 "ModulePlayerModel" "song" "[I") (List.mem_cons_of_mem _ kw_181)) (fun _ h9 => h9) rfl dX11_beginRow_146 ?_
  refine lv_aload_n hx hb dX11_beginRow_149 rfl (lv_at hl 3 rfl) ?_
  refine va_get (D := (dC, dI)) (ci := 10) (v := .int 0) (C := RX11) (T := TX11) (N := 53) hx hb hts iwX11 hown hK hP 5 rfl rfl 17 (by decide) (hts (.fieldLink RX11 203 "ModulePlayerModel" "place" "I") (List.mem_cons_of_mem _ kw_220)) (fun _ h9 => h9) rfl dX11_beginRow_150 ?_
  refine g_iald hx hb hK hP 1 0 rfl rfl 0 (by decide) (by unfold vp_in; decide) dX11_beginRow_153 ?_
  refine lv_imul hx hb dX11_beginRow_154 ?_
  refine g_topi (y := 0) (by decide) ?_
  refine lv_iconst (v := 4) hx hb dX11_beginRow_155 (by decide) ?_
  refine lv_aload_n hx hb dX11_beginRow_156 rfl (lv_at hl 3 rfl) ?_
  refine va_get (D := (dC, dI)) (ci := 10) (v := .int (nI ro2_21)) (C := RX11) (T := TX11) (N := 53) hx hb hts iwX11 hown hK hP 5 rfl rfl 18 (by decide) (hts (.fieldLink RX11 206 "ModulePlayerModel" "row" "I") (List.mem_cons_of_mem _ kw_221)) (fun _ h9 => h9) rfl dX11_beginRow_157 ?_
  refine lv_imul hx hb dX11_beginRow_160 ?_
  refine g_topi (y := nI (4 * ro2_21)) (pk_mul 4 _) ?_
  refine lv_iadd hx hb dX11_beginRow_161 ?_
  refine g_topi (y := nI (4 * ro2_21)) (Int32.zero_add _) ?_
  refine lv_iload_n hx hb dX11_beginRow_162 rfl (lv_at hl 0 rfl) ?_
  refine lv_iadd hx hb dX11_beginRow_163 ?_
  refine g_topi (y := nI (4 * ro2_21 + 0)) (nI_add _ 0) ?_
  refine g_iald hx hb hK hP 0 0 rfl rfl (4 * ro2_21 + 0) (nI_clamp (Nat.lt_trans (show 4 * ro2_21 + 0 < 2048 from by omega) (by decide))) (vp_in_nI (by omega) (by decide)) dX11_beginRow_164 ?_
  refine g_iast hx hb hK hP hD hS 4 0 rfl rfl 0 (by decide) (by unfold vp_in; decide) dX11_beginRow_165 (fun H locs hP hD hS => ?_)
  have hP : va_P (dC, dI) vwCl [(qa 11, .inl (cI, 2048, .inl (fun _ => 0))), (qa 12, .inl (cI, 128, .inl (fun _ => 0))), (qa 25, .inl (cZ, 8192, .inl fg__100)), (qa 46, .inl (cI, 4, .inl (fun _ => 0))), (qa 47, .inl (cI, 4, .inl (upd (fun _ => 0) 0 0))), (h, .inr (10, mdF qa x0 x2 x3 x4 1 0 x15 x16 0 (nI ro2_21) 0 0 ag_ x22 (nI nn) x24 (-1) (-1) (-1)))] H := hP
  have hD : va_D A [(qa 11, .inl (cI, 2048, .inl (fun _ => 0))), (qa 12, .inl (cI, 128, .inl (fun _ => 0))), (qa 25, .inl (cZ, 8192, .inl fg__100)), (qa 46, .inl (cI, 4, .inl (fun _ => 0))), (qa 47, .inl (cI, 4, .inl (upd (fun _ => 0) 0 0))), (h, .inr (10, mdF qa x0 x2 x3 x4 1 0 x15 x16 0 (nI ro2_21) 0 0 ag_ x22 (nI nn) x24 (-1) (-1) (-1)))] := hD
  have hfe_165 : upd (fun _ => 0) 0 0 = fun _ => 0 := upd_z _
  rw [hfe_165] at hP hD
  refine lv_iinc (v := 1) (lv' := [(3, .int 1), (2, .int 0), (1, .int (nI ro2_21)), (0, .ref h)]) hx hb dX11_beginRow_166 hl (k := 0) rfl (by decide) (by decide) rfl (fun ls hl => ?_)
  refine lv_goto (tgt := 128) hx hb dX11_beginRow_169 (by decide) ?_
  refine lv_iload_n hx hb dX11_beginRow_128 rfl (lv_at hl 0 rfl) ?_
  refine lv_iconst (v := 4) hx hb dX11_beginRow_129 (by decide) ?_
  refine lv_icmp_ge (tgt := 172) hx hb dX11_beginRow_130 (by decide) (fun c_130_2 => absurd c_130_2 (by decide)) (fun c_130_2 => ?_)
  refine lv_aload_n hx hb dX11_beginRow_133 rfl (lv_at hl 3 rfl) ?_
  refine va_get (D := (dC, dI)) (ci := 10) (v := .ref (qa 47)) (C := RX11) (T := TX11) (N := 53) hx hb hts iwX11 hown hK hP 5 rfl rfl 47 (by decide) (hts (.fieldLink RX11 104 "ModulePlayerModel" "cell" "[I") (List.mem_cons_of_mem _ kw_203)) (fun _ h9 => h9) rfl dX11_beginRow_134 ?_
  refine lv_iload_n hx hb dX11_beginRow_137 rfl (lv_at hl 0 rfl) ?_
  refine lv_aload_n hx hb dX11_beginRow_138 rfl (lv_at hl 3 rfl) ?_
  refine va_get (D := (dC, dI)) (ci := 10) (v := .ref (qa 11)) (C := RX11) (T := TX11) (N := 53) hx hb hts iwX11 hown hK hP 5 rfl rfl 11 (by decide) (hts (.fieldLink RX11 37 "ModulePlayerModel" "cells" "[I") (List.mem_cons_of_mem _ kw_180)) (fun _ h9 => h9) rfl dX11_beginRow_139 ?_
  refine lv_sipush (v := 256) hx hb dX11_beginRow_142 (by decide) ?_
  refine lv_aload_n hx hb dX11_beginRow_145 rfl (lv_at hl 3 rfl) ?_
  refine va_get (D := (dC, dI)) (ci := 10) (v := .ref (qa 12)) (C := RX11) (T := TX11) (N := 53) hx hb hts iwX11 hown hK hP 5 rfl rfl 12 (by decide) (hts (.fieldLink RX11 40 "ModulePlayerModel" "song" "[I") (List.mem_cons_of_mem _ kw_181)) (fun _ h9 => h9) rfl dX11_beginRow_146 ?_
  refine lv_aload_n hx hb dX11_beginRow_149 rfl (lv_at hl 3 rfl) ?_
  refine va_get (D := (dC, dI)) (ci := 10) (v := .int 0) (C := RX11) (T := TX11) (N := 53) hx hb hts iwX11 hown hK hP 5 rfl rfl 17 (by decide) (hts (.fieldLink RX11 203 "ModulePlayerModel" "place" "I") (List.mem_cons_of_mem _ kw_220)) (fun _ h9 => h9) rfl dX11_beginRow_150 ?_
  refine g_iald hx hb hK hP 1 0 rfl rfl 0 (by decide) (by unfold vp_in; decide) dX11_beginRow_153 ?_
  refine lv_imul hx hb dX11_beginRow_154 ?_
  refine g_topi (y := 0) (by decide) ?_
  refine lv_iconst (v := 4) hx hb dX11_beginRow_155 (by decide) ?_
  refine lv_aload_n hx hb dX11_beginRow_156 rfl (lv_at hl 3 rfl) ?_
  refine va_get (D := (dC, dI)) (ci := 10) (v := .int (nI ro2_21)) (C := RX11) (T := TX11) (N := 53) hx hb hts iwX11 hown hK hP 5 rfl rfl 18 (by decide) (hts (.fieldLink RX11 206 "ModulePlayerModel" "row" "I") (List.mem_cons_of_mem _ kw_221)) (fun _ h9 => h9) rfl dX11_beginRow_157 ?_
  refine lv_imul hx hb dX11_beginRow_160 ?_
  refine g_topi (y := nI (4 * ro2_21)) (pk_mul 4 _) ?_
  refine lv_iadd hx hb dX11_beginRow_161 ?_
  refine g_topi (y := nI (4 * ro2_21)) (Int32.zero_add _) ?_
  refine lv_iload_n hx hb dX11_beginRow_162 rfl (lv_at hl 0 rfl) ?_
  refine lv_iadd hx hb dX11_beginRow_163 ?_
  refine g_topi (y := nI (4 * ro2_21 + 1)) (nI_add _ 1) ?_
  refine g_iald hx hb hK hP 0 0 rfl rfl (4 * ro2_21 + 1) (nI_clamp (Nat.lt_trans (show 4 * ro2_21 + 1 < 2048 from by omega) (by decide))) (vp_in_nI (by omega) (by decide)) dX11_beginRow_164 ?_
  refine g_iast hx hb hK hP hD hS 4 0 rfl rfl 1 (by decide) (by unfold vp_in; decide) dX11_beginRow_165 (fun H locs hP hD hS => ?_)
  have hP : va_P (dC, dI) vwCl [(qa 11, .inl (cI, 2048, .inl (fun _ => 0))), (qa 12, .inl (cI, 128, .inl (fun _ => 0))), (qa 25, .inl (cZ, 8192, .inl fg__100)), (qa 46, .inl (cI, 4, .inl (fun _ => 0))), (qa 47, .inl (cI, 4, .inl (upd (fun _ => 0) 1 0))), (h, .inr (10, mdF qa x0 x2 x3 x4 1 0 x15 x16 0 (nI ro2_21) 0 0 ag_ x22 (nI nn) x24 (-1) (-1) (-1)))] H := hP
  have hD : va_D A [(qa 11, .inl (cI, 2048, .inl (fun _ => 0))), (qa 12, .inl (cI, 128, .inl (fun _ => 0))), (qa 25, .inl (cZ, 8192, .inl fg__100)), (qa 46, .inl (cI, 4, .inl (fun _ => 0))), (qa 47, .inl (cI, 4, .inl (upd (fun _ => 0) 1 0))), (h, .inr (10, mdF qa x0 x2 x3 x4 1 0 x15 x16 0 (nI ro2_21) 0 0 ag_ x22 (nI nn) x24 (-1) (-1) (-1)))] := hD
  have hfe_165 : upd (fun _ => 0) 1 0 = fun _ => 0 := upd_z _
  rw [hfe_165] at hP hD
  refine lv_iinc (v := 2) (lv' := [(3, .int 2), (2, .int 0), (1, .int (nI ro2_21)), (0, .ref h)]) hx hb dX11_beginRow_166 hl (k := 0) rfl (by decide) (by decide) rfl (fun ls hl => ?_)
  refine lv_goto (tgt := 128) hx hb dX11_beginRow_169 (by decide) ?_
  refine lv_iload_n hx hb dX11_beginRow_128 rfl (lv_at hl 0 rfl) ?_
  refine lv_iconst (v := 4) hx hb dX11_beginRow_129 (by decide) ?_
  refine lv_icmp_ge (tgt := 172) hx hb dX11_beginRow_130 (by decide) (fun c_130_3 => absurd c_130_3 (by decide)) (fun c_130_3 => ?_)
  refine lv_aload_n hx hb dX11_beginRow_133 rfl (lv_at hl 3 rfl) ?_
  refine va_get (D := (dC, dI)) (ci := 10) (v := .ref (qa 47)) (C := RX11) (T := TX11) (N := 53) hx hb hts iwX11 hown hK hP 5 rfl rfl 47 (by decide) (hts (.fieldLink RX11 104 "ModulePlayerModel" "cell" "[I") (List.mem_cons_of_mem _ kw_203)) (fun _ h9 => h9) rfl dX11_beginRow_134 ?_
  refine lv_iload_n hx hb dX11_beginRow_137 rfl (lv_at hl 0 rfl) ?_
  refine lv_aload_n hx hb dX11_beginRow_138 rfl (lv_at hl 3 rfl) ?_
  refine va_get (D := (dC, dI)) (ci := 10) (v := .ref (qa 11)) (C := RX11) (T := TX11) (N := 53) hx hb hts iwX11 hown hK hP 5 rfl rfl 11 (by decide) (hts (.fieldLink RX11 37 "ModulePlayerModel" "cells" "[I") (List.mem_cons_of_mem _ kw_180)) (fun _ h9 => h9) rfl dX11_beginRow_139 ?_
  refine lv_sipush (v := 256) hx hb dX11_beginRow_142 (by decide) ?_
  refine lv_aload_n hx hb dX11_beginRow_145 rfl (lv_at hl 3 rfl) ?_
  refine va_get (D := (dC, dI)) (ci := 10) (v := .ref (qa 12)) (C := RX11) (T := TX11) (N := 53) hx hb hts iwX11 hown hK hP 5 rfl rfl 12 (by decide) (hts (.fieldLink RX11 40 "ModulePlayerModel" "song" "[I") (List.mem_cons_of_mem _ kw_181)) (fun _ h9 => h9) rfl dX11_beginRow_146 ?_
  refine lv_aload_n hx hb dX11_beginRow_149 rfl (lv_at hl 3 rfl) ?_
  refine va_get (D := (dC, dI)) (ci := 10) (v := .int 0) (C := RX11) (T := TX11) (N := 53) hx hb hts iwX11 hown hK hP 5 rfl rfl 17 (by decide) (hts (.fieldLink RX11 203 "ModulePlayerModel" "place" "I") (List.mem_cons_of_mem _ kw_220)) (fun _ h9 => h9) rfl dX11_beginRow_150 ?_
  refine g_iald hx hb hK hP 1 0 rfl rfl 0 (by decide) (by unfold vp_in; decide) dX11_beginRow_153 ?_
  refine lv_imul hx hb dX11_beginRow_154 ?_
  refine g_topi (y := 0) (by decide) ?_
  refine lv_iconst (v := 4) hx hb dX11_beginRow_155 (by decide) ?_
  refine lv_aload_n hx hb dX11_beginRow_156 rfl (lv_at hl 3 rfl) ?_
  refine va_get (D := (dC, dI)) (ci := 10) (v := .int (nI ro2_21)) (C := RX11) (T := TX11) (N := 53) hx hb hts iwX11 hown hK hP 5 rfl rfl 18 (by decide) (hts (.fieldLink RX11 206 "ModulePlayerModel" "row" "I") (List.mem_cons_of_mem _ kw_221)) (fun _ h9 => h9) rfl dX11_beginRow_157 ?_
  refine lv_imul hx hb dX11_beginRow_160 ?_
  refine g_topi (y := nI (4 * ro2_21)) (pk_mul 4 _) ?_
  refine lv_iadd hx hb dX11_beginRow_161 ?_
  refine g_topi (y := nI (4 * ro2_21)) (Int32.zero_add _) ?_
  refine lv_iload_n hx hb dX11_beginRow_162 rfl (lv_at hl 0 rfl) ?_
  refine lv_iadd hx hb dX11_beginRow_163 ?_
  refine g_topi (y := nI (4 * ro2_21 + 2)) (nI_add _ 2) ?_
  refine g_iald hx hb hK hP 0 0 rfl rfl (4 * ro2_21 + 2) (nI_clamp (Nat.lt_trans (show 4 * ro2_21 + 2 < 2048 from by omega) (by decide))) (vp_in_nI (by omega) (by decide)) dX11_beginRow_164 ?_
  refine g_iast hx hb hK hP hD hS 4 0 rfl rfl 2 (by decide) (by unfold vp_in; decide) dX11_beginRow_165 (fun H locs hP hD hS => ?_)
  have hP : va_P (dC, dI) vwCl [(qa 11, .inl (cI, 2048, .inl (fun _ => 0))), (qa 12, .inl (cI, 128, .inl (fun _ => 0))), (qa 25, .inl (cZ, 8192, .inl fg__100)), (qa 46, .inl (cI, 4, .inl (fun _ => 0))), (qa 47, .inl (cI, 4, .inl (upd (fun _ => 0) 2 0))), (h, .inr (10, mdF qa x0 x2 x3 x4 1 0 x15 x16 0 (nI ro2_21) 0 0 ag_ x22 (nI nn) x24 (-1) (-1) (-1)))] H := hP
  have hD : va_D A [(qa 11, .inl (cI, 2048, .inl (fun _ => 0))), (qa 12, .inl (cI, 128, .inl (fun _ => 0))), (qa 25, .inl (cZ, 8192, .inl fg__100)), (qa 46, .inl (cI, 4, .inl (fun _ => 0))), (qa 47, .inl (cI, 4, .inl (upd (fun _ => 0) 2 0))), (h, .inr (10, mdF qa x0 x2 x3 x4 1 0 x15 x16 0 (nI ro2_21) 0 0 ag_ x22 (nI nn) x24 (-1) (-1) (-1)))] := hD
  have hfe_165 : upd (fun _ => 0) 2 0 = fun _ => 0 := upd_z _
  rw [hfe_165] at hP hD
  refine lv_iinc (v := 3) (lv' := [(3, .int 3), (2, .int 0), (1, .int (nI ro2_21)), (0, .ref h)]) hx hb dX11_beginRow_166 hl (k := 0) rfl (by decide) (by decide) rfl (fun ls hl => ?_)
  refine lv_goto (tgt := 128) hx hb dX11_beginRow_169 (by decide) ?_
  refine lv_iload_n hx hb dX11_beginRow_128 rfl (lv_at hl 0 rfl) ?_
  refine lv_iconst (v := 4) hx hb dX11_beginRow_129 (by decide) ?_
  refine lv_icmp_ge (tgt := 172) hx hb dX11_beginRow_130 (by decide) (fun c_130_4 => absurd c_130_4 (by decide)) (fun c_130_4 => ?_)
  refine lv_aload_n hx hb dX11_beginRow_133 rfl (lv_at hl 3 rfl) ?_
  refine va_get (D := (dC, dI)) (ci := 10) (v := .ref (qa 47)) (C := RX11) (T := TX11) (N := 53) hx hb hts iwX11 hown hK hP 5 rfl rfl 47 (by decide) (hts (.fieldLink RX11 104 "ModulePlayerModel" "cell" "[I") (List.mem_cons_of_mem _ kw_203)) (fun _ h9 => h9) rfl dX11_beginRow_134 ?_
  refine lv_iload_n hx hb dX11_beginRow_137 rfl (lv_at hl 0 rfl) ?_
  refine lv_aload_n hx hb dX11_beginRow_138 rfl (lv_at hl 3 rfl) ?_
  refine va_get (D := (dC, dI)) (ci := 10) (v := .ref (qa 11)) (C := RX11) (T := TX11) (N := 53) hx hb hts iwX11 hown hK hP 5 rfl rfl 11 (by decide) (hts (.fieldLink RX11 37 "ModulePlayerModel" "cells" "[I") (List.mem_cons_of_mem _ kw_180)) (fun _ h9 => h9) rfl dX11_beginRow_139 ?_
  refine lv_sipush (v := 256) hx hb dX11_beginRow_142 (by decide) ?_
  refine lv_aload_n hx hb dX11_beginRow_145 rfl (lv_at hl 3 rfl) ?_
  refine va_get (D := (dC, dI)) (ci := 10) (v := .ref (qa 12)) (C := RX11) (T := TX11) (N := 53) hx hb hts iwX11 hown hK hP 5 rfl rfl 12 (by decide) (hts (.fieldLink RX11 40 "ModulePlayerModel" "song" "[I") (List.mem_cons_of_mem _ kw_181)) (fun _ h9 => h9) rfl dX11_beginRow_146 ?_
  refine lv_aload_n hx hb dX11_beginRow_149 rfl (lv_at hl 3 rfl) ?_
  refine va_get (D := (dC, dI)) (ci := 10) (v := .int 0) (C := RX11) (T := TX11) (N := 53) hx hb hts iwX11 hown hK hP 5 rfl rfl 17 (by decide) (hts (.fieldLink RX11 203 "ModulePlayerModel" "place" "I") (List.mem_cons_of_mem _ kw_220)) (fun _ h9 => h9) rfl dX11_beginRow_150 ?_
  refine g_iald hx hb hK hP 1 0 rfl rfl 0 (by decide) (by unfold vp_in; decide) dX11_beginRow_153 ?_
  refine lv_imul hx hb dX11_beginRow_154 ?_
  refine g_topi (y := 0) (by decide) ?_
  refine lv_iconst (v := 4) hx hb dX11_beginRow_155 (by decide) ?_
  refine lv_aload_n hx hb dX11_beginRow_156 rfl (lv_at hl 3 rfl) ?_
  refine va_get (D := (dC, dI)) (ci := 10) (v := .int (nI ro2_21)) (C := RX11) (T := TX11) (N := 53) hx hb hts iwX11 hown hK hP 5 rfl rfl 18 (by decide) (hts (.fieldLink RX11 206 "ModulePlayerModel" "row" "I") (List.mem_cons_of_mem _ kw_221)) (fun _ h9 => h9) rfl dX11_beginRow_157 ?_
  refine lv_imul hx hb dX11_beginRow_160 ?_
  refine g_topi (y := nI (4 * ro2_21)) (pk_mul 4 _) ?_
  refine lv_iadd hx hb dX11_beginRow_161 ?_
  refine g_topi (y := nI (4 * ro2_21)) (Int32.zero_add _) ?_
  refine lv_iload_n hx hb dX11_beginRow_162 rfl (lv_at hl 0 rfl) ?_
  refine lv_iadd hx hb dX11_beginRow_163 ?_
  refine g_topi (y := nI (4 * ro2_21 + 3)) (nI_add _ 3) ?_
  refine g_iald hx hb hK hP 0 0 rfl rfl (4 * ro2_21 + 3) (nI_clamp (Nat.lt_trans (show 4 * ro2_21 + 3 < 2048 from by omega) (by decide))) (vp_in_nI (by omega) (by decide)) dX11_beginRow_164 ?_
  refine g_iast hx hb hK hP hD hS 4 0 rfl rfl 3 (by decide) (by unfold vp_in; decide) dX11_beginRow_165 (fun H locs hP hD hS => ?_)
  have hP : va_P (dC, dI) vwCl [(qa 11, .inl (cI, 2048, .inl (fun _ => 0))), (qa 12, .inl (cI, 128, .inl (fun _ => 0))), (qa 25, .inl (cZ, 8192, .inl fg__100)), (qa 46, .inl (cI, 4, .inl (fun _ => 0))), (qa 47, .inl (cI, 4, .inl (upd (fun _ => 0) 3 0))), (h, .inr (10, mdF qa x0 x2 x3 x4 1 0 x15 x16 0 (nI ro2_21) 0 0 ag_ x22 (nI nn) x24 (-1) (-1) (-1)))] H := hP
  have hD : va_D A [(qa 11, .inl (cI, 2048, .inl (fun _ => 0))), (qa 12, .inl (cI, 128, .inl (fun _ => 0))), (qa 25, .inl (cZ, 8192, .inl fg__100)), (qa 46, .inl (cI, 4, .inl (fun _ => 0))), (qa 47, .inl (cI, 4, .inl (upd (fun _ => 0) 3 0))), (h, .inr (10, mdF qa x0 x2 x3 x4 1 0 x15 x16 0 (nI ro2_21) 0 0 ag_ x22 (nI nn) x24 (-1) (-1) (-1)))] := hD
  have hfe_165 : upd (fun _ => 0) 3 0 = fun _ => 0 := upd_z _
  rw [hfe_165] at hP hD
  refine lv_iinc (v := 4) (lv' := [(3, .int 4), (2, .int 0), (1, .int (nI ro2_21)), (0, .ref h)]) hx hb dX11_beginRow_166 hl (k := 0) rfl (by decide) (by decide) rfl (fun ls hl => ?_)
  refine lv_goto (tgt := 128) hx hb dX11_beginRow_169 (by decide) ?_
  refine lv_iload_n hx hb dX11_beginRow_128 rfl (lv_at hl 0 rfl) ?_
  refine lv_iconst (v := 4) hx hb dX11_beginRow_129 (by decide) ?_
  refine lv_icmp_ge (tgt := 172) hx hb dX11_beginRow_130 (by decide) (fun c_130_5 => ?_) (fun c_130_5 => absurd c_130_5 (by decide))
  have hP9 := hP.sub (ws' := [(h, .inr (10, mdF qa x0 x2 x3 x4 1 0 x15 x16 0 (nI ro2_21) 0 0 ag_ x22 (nI nn) x24 (-1) (-1) (-1))), (qa 11, .inl (cI, 2048, .inl (fun _ => 0))), (qa 12, .inl (cI, 128, .inl (fun _ => 0))), (qa 25, .inl (cZ, 8192, .inl fg__100)), (qa 46, .inl (cI, 4, .inl (fun _ => 0))), (qa 47, .inl (cI, 4, .inl (fun _ => 0)))]) [5, 0, 1, 2, 3, 4] rfl
  have hD9 := hD.sub (ws' := [(h, .inr (10, mdF qa x0 x2 x3 x4 1 0 x15 x16 0 (nI ro2_21) 0 0 ag_ x22 (nI nn) x24 (-1) (-1) (-1))), (qa 11, .inl (cI, 2048, .inl (fun _ => 0))), (qa 12, .inl (cI, 128, .inl (fun _ => 0))), (qa 25, .inl (cZ, 8192, .inl fg__100)), (qa 46, .inl (cI, 4, .inl (fun _ => 0))), (qa 47, .inl (cI, 4, .inl (fun _ => 0)))]) [5, 0, 1, 2, 3, 4] (by decide) rfl
  have hK9 := hK.sub (tys' := []) [] rfl
  exact W.vret hx hb hr (fun t ht hW => ⟨⟨([(h, .inr (10, mdF qa x0 x2 x3 x4 1 0 x15 x16 0 (nI ro2_21) 0 0 ag_ x22 (nI nn) x24 (-1) (-1) (-1))), (qa 11, .inl (cI, 2048, .inl (fun _ => 0))), (qa 12, .inl (cI, 128, .inl (fun _ => 0))), (qa 25, .inl (cZ, 8192, .inl fg__100)), (qa 46, .inl (cI, 4, .inl (fun _ => 0))), (qa 47, .inl (cI, 4, .inl (fun _ => 0)))], []), rfl, ⟨ro2_21, ag_, fg__100, rfl, hro2_21⟩, by rw [ht]; exact hP9, va_K.moved hW.alike hK9, hD9⟩, hS.F ht⟩) hS.2.2 dX11_beginRow_172

set_option maxHeartbeats 400000 in
set_option maxRecDepth 100000 in
theorem m_oneTickA (l : Launch) (dC : Nat → ClassId) (dI : Nat → Nat → Nat) (sz : Nat) (h : Nat) (qa : Nat → Nat) (x2 x3 x4 x17 x18 x19 x20 x21 x22 x24 x26 x27 x28 : Int32) (cI cZ : ClassId) (kk : Nat) (fz fl fr_ : Nat → Int32) (hkk : kk ≤ 16000) : Met l yX11_oneTick (wsG (.code yX11_oneTick cX11_oneTick 2 none)) ({ frames := 3, cells := 0, slots := 0, locals := 67 }) (va_Pc [.ref h] (gP (dC, dI) [(cI, .int), (cZ, .boolean)] [(h, .inr (10, mdF qa (nI kk) x2 x3 x4 1 0 6 125 x17 x18 x19 x20 x21 x22 0 x24 x26 x27 x28)), (qa 11, .inl (cI, 2048, .inl (fun _ => 0))), (qa 12, .inl (cI, 128, .inl (fun _ => 0))), (qa 25, .inl (cZ, 8192, .inl fz)), (qa 29, .inl (cI, 1300, .inl fl)), (qa 30, .inl (cI, 1300, .inl fr_)), (qa 32, .inl (cI, 4, .inl (fun _ => 0))), (qa 34, .inl (cI, 4, .inl (fun _ => 0))), (qa 46, .inl (cI, 4, .inl (fun _ => 0))), (qa 47, .inl (cI, 4, .inl (fun _ => 0))), (qa 48, .inl (cI, 4, .inl (fun _ => 0))), (qa 49, .inl (cI, 4, .inl (fun _ => 0))), (qa 51, .inl (cZ, 4, .inl (fun _ => 0)))] sz)) (va_Qv (fun u : va_W × gT => ∃ (ro2 : Nat) (tt2 : Nat) (ag2 : Int32) (sm2 : Int32) (fr2 : Int32) (fz2 : Nat → Int32) (fl2 : Nat → Int32) (fr_2 : Nat → Int32), u = ([(h, .inr (10, mdF qa (nI kk) x2 x3 x4 1 0 6 125 0 (nI ro2) (nI tt2) 0 ag2 sm2 1 fr2 (-1) (-1) (-1))), (qa 11, .inl (cI, 2048, .inl (fun _ => 0))), (qa 12, .inl (cI, 128, .inl (fun _ => 0))), (qa 25, .inl (cZ, 8192, .inl fz2)), (qa 29, .inl (cI, 1300, .inl fl2)), (qa 30, .inl (cI, 1300, .inl fr_2)), (qa 32, .inl (cI, 4, .inl (fun _ => 0))), (qa 34, .inl (cI, 4, .inl (fun _ => 0))), (qa 46, .inl (cI, 4, .inl (fun _ => 0))), (qa 47, .inl (cI, 4, .inl (fun _ => 0))), (qa 48, .inl (cI, 4, .inl (fun _ => 0))), (qa 49, .inl (cI, 4, .inl (fun _ => 0))), (qa 51, .inl (cZ, 4, .inl (fun _ => 0)))], []) ∧ ro2 < 64 ∧ tt2 < 6) (gB (dC, dI) (va_A [(h, .inr (10, mdF qa (nI kk) x2 x3 x4 1 0 6 125 x17 x18 x19 x20 x21 x22 0 x24 x26 x27 x28)), (qa 11, .inl (cI, 2048, .inl (fun _ => 0))), (qa 12, .inl (cI, 128, .inl (fun _ => 0))), (qa 25, .inl (cZ, 8192, .inl fz)), (qa 29, .inl (cI, 1300, .inl fl)), (qa 30, .inl (cI, 1300, .inl fr_)), (qa 32, .inl (cI, 4, .inl (fun _ => 0))), (qa 34, .inl (cI, 4, .inl (fun _ => 0))), (qa 46, .inl (cI, 4, .inl (fun _ => 0))), (qa 47, .inl (cI, 4, .inl (fun _ => 0))), (qa 48, .inl (cI, 4, .inl (fun _ => 0))), (qa 49, .inl (cI, 4, .inl (fun _ => 0))), (qa 51, .inl (cZ, 4, .inl (fun _ => 0)))] sz)) (va_A [(h, .inr (10, mdF qa (nI kk) x2 x3 x4 1 0 6 125 x17 x18 x19 x20 x21 x22 0 x24 x26 x27 x28)), (qa 11, .inl (cI, 2048, .inl (fun _ => 0))), (qa 12, .inl (cI, 128, .inl (fun _ => 0))), (qa 25, .inl (cZ, 8192, .inl fz)), (qa 29, .inl (cI, 1300, .inl fl)), (qa 30, .inl (cI, 1300, .inl fr_)), (qa 32, .inl (cI, 4, .inl (fun _ => 0))), (qa 34, .inl (cI, 4, .inl (fun _ => 0))), (qa 46, .inl (cI, 4, .inl (fun _ => 0))), (qa 47, .inl (cI, 4, .inl (fun _ => 0))), (qa 48, .inl (cI, 4, .inl (fun _ => 0))), (qa 49, .inl (cI, 4, .inl (fun _ => 0))), (qa 51, .inl (cZ, 4, .inl (fun _ => 0)))] sz)) 0 0 (va_A [(h, .inr (10, mdF qa (nI kk) x2 x3 x4 1 0 6 125 x17 x18 x19 x20 x21 x22 0 x24 x26 x27 x28)), (qa 11, .inl (cI, 2048, .inl (fun _ => 0))), (qa 12, .inl (cI, 128, .inl (fun _ => 0))), (qa 25, .inl (cZ, 8192, .inl fz)), (qa 29, .inl (cI, 1300, .inl fl)), (qa 30, .inl (cI, 1300, .inl fr_)), (qa 32, .inl (cI, 4, .inl (fun _ => 0))), (qa 34, .inl (cI, 4, .inl (fun _ => 0))), (qa 46, .inl (cI, 4, .inl (fun _ => 0))), (qa 47, .inl (cI, 4, .inl (fun _ => 0))), (qa 48, .inl (cI, 4, .inl (fun _ => 0))), (qa 49, .inl (cI, 4, .inl (fun _ => 0))), (qa 51, .inl (cZ, 4, .inl (fun _ => 0)))] sz) := by
  refine Met.ofW (cc := cX11_oneTick) (maxL := 2) (ret := none) (by decide) rfl ?_
  intro p e s m args below meth c s₁ B hml hv
  obtain ⟨rfl, hsz, hP, hK, hD0, hN, hZ⟩ := hv
  have hx := B.exec
  have hb := B.bytes
  have hr := B.returns
  have hts := atoms_spec (ws := (wsG (.code yX11_oneTick cX11_oneTick 2 none))) B.pre
  have hown : s.vm.findClass RX11 = some m.cls := findClass_of_methodNamed B.named
  have hlocks := B.notSynchronized
  subst hsz
  have hD := hD0.self (sz := s.heap.size)
  generalize hAe : va_A [(h, .inr (10, mdF qa (nI kk) x2 x3 x4 1 0 6 125 x17 x18 x19 x20 x21 x22 0 x24 x26 x27 x28)), (qa 11, .inl (cI, 2048, .inl (fun _ => 0))), (qa 12, .inl (cI, 128, .inl (fun _ => 0))), (qa 25, .inl (cZ, 8192, .inl fz)), (qa 29, .inl (cI, 1300, .inl fl)), (qa 30, .inl (cI, 1300, .inl fr_)), (qa 32, .inl (cI, 4, .inl (fun _ => 0))), (qa 34, .inl (cI, 4, .inl (fun _ => 0))), (qa 46, .inl (cI, 4, .inl (fun _ => 0))), (qa 47, .inl (cI, 4, .inl (fun _ => 0))), (qa 48, .inl (cI, 4, .inl (fun _ => 0))), (qa 49, .inl (cI, 4, .inl (fun _ => 0))), (qa 51, .inl (cZ, 4, .inl (fun _ => 0)))] s.heap.size = A at hD hZ ⊢
  have hA : ∀ q : Nat, s.heap.size ≤ q → A q := fun q h => by rw [← hAe]; exact Or.inr h
  have hl := lv_entry ([.ref h]) (n := 2) (Nat.le_of_ble_eq_true rfl)
  rw [lg_entry_eq]
  generalize (lg_sl ([.ref h]) ++ List.replicate (2 - (lg_sl ([.ref h])).length) Slot.unset).toArray = ls at hl ⊢
  have hl : lv_has ls 2 [(0, .ref h)] := hl
  refine g_start (A := A) hP (fun H locs hP hS => ?_)
  refine lv_aload_n hx hb dX11_oneTick_0 rfl (lv_at hl 0 rfl) ?_
  refine va_get (D := (dC, dI)) (ci := 10) (v := .int 0) (C := RX11) (T := TX11) (N := 53) hx hb hts iwX11 hown hK hP 0 rfl rfl 23 (by decide) (hts (.fieldLink RX11 224 "ModulePlayerModel" "ticks" "I") (List.mem_cons_of_mem _ kw_227)) (fun _ h9 => h9) rfl dX11_oneTick_1 ?_
  refine lv_if_eq (tgt := 27) hx hb dX11_oneTick_4 (by decide) (fun c_4 => ?_) (fun c_4 => absurd c_4 (by decide))
  refine lv_aload_n hx hb dX11_oneTick_27 rfl (lv_at hl 0 rfl) ?_
  refine g_callv (wr := [(qa 29, .inl (cI, 1300, .inl fl)), (qa 30, .inl (cI, 1300, .inl fr_)), (qa 32, .inl (cI, 4, .inl (fun _ => 0))), (qa 34, .inl (cI, 4, .inl (fun _ => 0))), (qa 48, .inl (cI, 4, .inl (fun _ => 0))), (qa 49, .inl (cI, 4, .inl (fun _ => 0))), (qa 51, .inl (cZ, 4, .inl (fun _ => 0)))]) (va_runV (As := []) (rest := []) ⟨hx, hb, hml, hown, hts⟩ (m_beginRowA l dC dI H.size h qa (nI kk) x2 x3 x4 6 125 x17 x18 x19 x20 x21 x22 x24 x26 x27 x28 cI cZ fz ) (cwV 0 hts (gG_V kw_837 kw_838 kw_839 kw_5 kw_840) rfl rfl rfl (by decide +kernel) ⟨Nat.le_of_ble_eq_true rfl, Nat.le_of_ble_eq_true rfl⟩) (g_preV (C := RX11) (T := TX11) (N := 53) hP hD hK hS hA hN hZ (q0 := 0) rfl rfl [0, 1, 2, 3, 8, 9] (by decide) rfl [0, 1] rfl) rfl rfl hl.1 rfl (lv_room (Nat.le_of_ble_eq_true rfl)) dX11_oneTick_28 ⟨Nat.le_of_ble_eq_true rfl, Nat.le_of_ble_eq_true rfl⟩) hP hD hK hS hA [0, 1, 2, 3, 8, 9] [4, 5, 6, 7, 10, 11, 12] rfl rfl (by decide) (by decide) (fun w ty1 H locs hw_28 hP hD _ hS => ?_)
  rcases hw_28 with ⟨ro2_28, ag2_28, fz2_28, hu, hro2_28⟩
  cases hu
  have hP : va_P (dC, dI) vwCl [(qa 29, .inl (cI, 1300, .inl fl)), (qa 30, .inl (cI, 1300, .inl fr_)), (qa 32, .inl (cI, 4, .inl (fun _ => 0))), (qa 34, .inl (cI, 4, .inl (fun _ => 0))), (qa 48, .inl (cI, 4, .inl (fun _ => 0))), (qa 49, .inl (cI, 4, .inl (fun _ => 0))), (qa 51, .inl (cZ, 4, .inl (fun _ => 0))), (h, .inr (10, mdF qa (nI kk) x2 x3 x4 1 0 6 125 0 (nI ro2_28) 0 0 ag2_28 x22 0 x24 (-1) (-1) (-1))), (qa 11, .inl (cI, 2048, .inl (fun _ => 0))), (qa 12, .inl (cI, 128, .inl (fun _ => 0))), (qa 25, .inl (cZ, 8192, .inl fz2_28)), (qa 46, .inl (cI, 4, .inl (fun _ => 0))), (qa 47, .inl (cI, 4, .inl (fun _ => 0)))] H := hP
  have hD : va_D A [(qa 29, .inl (cI, 1300, .inl fl)), (qa 30, .inl (cI, 1300, .inl fr_)), (qa 32, .inl (cI, 4, .inl (fun _ => 0))), (qa 34, .inl (cI, 4, .inl (fun _ => 0))), (qa 48, .inl (cI, 4, .inl (fun _ => 0))), (qa 49, .inl (cI, 4, .inl (fun _ => 0))), (qa 51, .inl (cZ, 4, .inl (fun _ => 0))), (h, .inr (10, mdF qa (nI kk) x2 x3 x4 1 0 6 125 0 (nI ro2_28) 0 0 ag2_28 x22 0 x24 (-1) (-1) (-1))), (qa 11, .inl (cI, 2048, .inl (fun _ => 0))), (qa 12, .inl (cI, 128, .inl (fun _ => 0))), (qa 25, .inl (cZ, 8192, .inl fz2_28)), (qa 46, .inl (cI, 4, .inl (fun _ => 0))), (qa 47, .inl (cI, 4, .inl (fun _ => 0)))] := hD
  refine lv_goto (tgt := 44) hx hb dX11_oneTick_31 (by decide) ?_
  refine lv_iconst (v := 0) hx hb dX11_oneTick_44 (by decide) ?_
  refine lv_istore_n (lv' := [(1, .int 0), (0, .ref h)]) hx hb dX11_oneTick_45 rfl hl (by decide) rfl (fun ls hl => ?_)
  refine lv_iload_n hx hb dX11_oneTick_46 rfl (lv_at hl 0 rfl) ?_
  refine lv_iconst (v := 4) hx hb dX11_oneTick_47 (by decide) ?_
  refine lv_icmp_ge (tgt := 62) hx hb dX11_oneTick_48 (by decide) (fun c_48 => absurd c_48 (by decide)) (fun c_48 => ?_)
  refine lv_aload_n hx hb dX11_oneTick_51 rfl (lv_at hl 1 rfl) ?_
  refine lv_iload_n hx hb dX11_oneTick_52 rfl (lv_at hl 0 rfl) ?_
  refine g_callv (wr := [(qa 29, .inl (cI, 1300, .inl fl)), (qa 30, .inl (cI, 1300, .inl fr_)), (qa 51, .inl (cZ, 4, .inl (fun _ => 0))), (qa 11, .inl (cI, 2048, .inl (fun _ => 0))), (qa 12, .inl (cI, 128, .inl (fun _ => 0))), (qa 25, .inl (cZ, 8192, .inl fz2_28)), (qa 46, .inl (cI, 4, .inl (fun _ => 0)))]) (va_runV (As := [.int 0]) (rest := []) ⟨hx, hb, hml, hown, hts⟩ (m_acts0 l dC dI H.size h qa (nI kk) x2 x3 x4 1 0 6 125 0 (nI ro2_28) 0 0 ag2_28 x22 0 x24 (-1) (-1) (-1) cI 0 (by decide)) (cwV 1 hts (gG_V kw_852 kw_853 kw_854 kw_5 kw_855) rfl rfl rfl (by decide +kernel) ⟨Nat.le_of_ble_eq_true rfl, Nat.le_of_ble_eq_true rfl⟩) (g_preV (C := RX11) (T := TX11) (N := 53) hP hD hK hS hA hN hZ (q0 := 7) rfl rfl [7, 2, 3, 12, 4, 5] (by decide) rfl [0] rfl) rfl rfl hl.1 rfl (lv_room (Nat.le_of_ble_eq_true rfl)) dX11_oneTick_53 ⟨Nat.le_of_ble_eq_true rfl, Nat.le_of_ble_eq_true rfl⟩) hP hD hK hS hA [7, 2, 3, 12, 4, 5] [0, 1, 6, 8, 9, 10, 11] rfl rfl (by decide) (by decide) (fun w ty1 H locs hw_53 hP hD _ hS => ?_)
  have hu := hw_53
  cases hu
  have hP : va_P (dC, dI) vwCl [(qa 29, .inl (cI, 1300, .inl fl)), (qa 30, .inl (cI, 1300, .inl fr_)), (qa 51, .inl (cZ, 4, .inl (fun _ => 0))), (qa 11, .inl (cI, 2048, .inl (fun _ => 0))), (qa 12, .inl (cI, 128, .inl (fun _ => 0))), (qa 25, .inl (cZ, 8192, .inl fz2_28)), (qa 46, .inl (cI, 4, .inl (fun _ => 0))), (h, .inr (10, mdF qa (nI kk) x2 x3 x4 1 0 6 125 0 (nI ro2_28) 0 0 ag2_28 x22 0 x24 (-1) (-1) (-1))), (qa 32, .inl (cI, 4, .inl (fun _ => 0))), (qa 34, .inl (cI, 4, .inl (fun _ => 0))), (qa 47, .inl (cI, 4, .inl (fun _ => 0))), (qa 48, .inl (cI, 4, .inl (fun _ => 0))), (qa 49, .inl (cI, 4, .inl (fun _ => 0)))] H := hP
  have hD : va_D A [(qa 29, .inl (cI, 1300, .inl fl)), (qa 30, .inl (cI, 1300, .inl fr_)), (qa 51, .inl (cZ, 4, .inl (fun _ => 0))), (qa 11, .inl (cI, 2048, .inl (fun _ => 0))), (qa 12, .inl (cI, 128, .inl (fun _ => 0))), (qa 25, .inl (cZ, 8192, .inl fz2_28)), (qa 46, .inl (cI, 4, .inl (fun _ => 0))), (h, .inr (10, mdF qa (nI kk) x2 x3 x4 1 0 6 125 0 (nI ro2_28) 0 0 ag2_28 x22 0 x24 (-1) (-1) (-1))), (qa 32, .inl (cI, 4, .inl (fun _ => 0))), (qa 34, .inl (cI, 4, .inl (fun _ => 0))), (qa 47, .inl (cI, 4, .inl (fun _ => 0))), (qa 48, .inl (cI, 4, .inl (fun _ => 0))), (qa 49, .inl (cI, 4, .inl (fun _ => 0)))] := hD
  refine lv_iinc (v := 1) (lv' := [(1, .int 1), (0, .ref h)]) hx hb dX11_oneTick_56 hl (k := 0) rfl (by decide) (by decide) rfl (fun ls hl => ?_)
  refine lv_goto (tgt := 46) hx hb dX11_oneTick_59 (by decide) ?_
  refine lv_iload_n hx hb dX11_oneTick_46 rfl (lv_at hl 0 rfl) ?_
  refine lv_iconst (v := 4) hx hb dX11_oneTick_47 (by decide) ?_
  refine lv_icmp_ge (tgt := 62) hx hb dX11_oneTick_48 (by decide) (fun c_48_2 => absurd c_48_2 (by decide)) (fun c_48_2 => ?_)
  refine lv_aload_n hx hb dX11_oneTick_51 rfl (lv_at hl 1 rfl) ?_
  refine lv_iload_n hx hb dX11_oneTick_52 rfl (lv_at hl 0 rfl) ?_
  refine g_callv (wr := [(qa 29, .inl (cI, 1300, .inl fl)), (qa 30, .inl (cI, 1300, .inl fr_)), (qa 51, .inl (cZ, 4, .inl (fun _ => 0))), (qa 11, .inl (cI, 2048, .inl (fun _ => 0))), (qa 12, .inl (cI, 128, .inl (fun _ => 0))), (qa 25, .inl (cZ, 8192, .inl fz2_28)), (qa 46, .inl (cI, 4, .inl (fun _ => 0)))]) (va_runV (As := [.int 1]) (rest := []) ⟨hx, hb, hml, hown, hts⟩ (m_acts0 l dC dI H.size h qa (nI kk) x2 x3 x4 1 0 6 125 0 (nI ro2_28) 0 0 ag2_28 x22 0 x24 (-1) (-1) (-1) cI 1 (by decide)) (cwV 1 hts (gG_V kw_852 kw_853 kw_854 kw_5 kw_855) rfl rfl rfl (by decide +kernel) ⟨Nat.le_of_ble_eq_true rfl, Nat.le_of_ble_eq_true rfl⟩) (g_preV (C := RX11) (T := TX11) (N := 53) hP hD hK hS hA hN hZ (q0 := 7) rfl rfl [7, 8, 9, 10, 11, 12] (by decide) rfl [0] rfl) rfl rfl hl.1 rfl (lv_room (Nat.le_of_ble_eq_true rfl)) dX11_oneTick_53 ⟨Nat.le_of_ble_eq_true rfl, Nat.le_of_ble_eq_true rfl⟩) hP hD hK hS hA [7, 8, 9, 10, 11, 12] [0, 1, 2, 3, 4, 5, 6] rfl rfl (by decide) (by decide) (fun w ty1 H locs hw_53 hP hD _ hS => ?_)
  have hu := hw_53
  cases hu
  have hP : va_P (dC, dI) vwCl [(qa 29, .inl (cI, 1300, .inl fl)), (qa 30, .inl (cI, 1300, .inl fr_)), (qa 51, .inl (cZ, 4, .inl (fun _ => 0))), (qa 11, .inl (cI, 2048, .inl (fun _ => 0))), (qa 12, .inl (cI, 128, .inl (fun _ => 0))), (qa 25, .inl (cZ, 8192, .inl fz2_28)), (qa 46, .inl (cI, 4, .inl (fun _ => 0))), (h, .inr (10, mdF qa (nI kk) x2 x3 x4 1 0 6 125 0 (nI ro2_28) 0 0 ag2_28 x22 0 x24 (-1) (-1) (-1))), (qa 32, .inl (cI, 4, .inl (fun _ => 0))), (qa 34, .inl (cI, 4, .inl (fun _ => 0))), (qa 47, .inl (cI, 4, .inl (fun _ => 0))), (qa 48, .inl (cI, 4, .inl (fun _ => 0))), (qa 49, .inl (cI, 4, .inl (fun _ => 0)))] H := hP
  have hD : va_D A [(qa 29, .inl (cI, 1300, .inl fl)), (qa 30, .inl (cI, 1300, .inl fr_)), (qa 51, .inl (cZ, 4, .inl (fun _ => 0))), (qa 11, .inl (cI, 2048, .inl (fun _ => 0))), (qa 12, .inl (cI, 128, .inl (fun _ => 0))), (qa 25, .inl (cZ, 8192, .inl fz2_28)), (qa 46, .inl (cI, 4, .inl (fun _ => 0))), (h, .inr (10, mdF qa (nI kk) x2 x3 x4 1 0 6 125 0 (nI ro2_28) 0 0 ag2_28 x22 0 x24 (-1) (-1) (-1))), (qa 32, .inl (cI, 4, .inl (fun _ => 0))), (qa 34, .inl (cI, 4, .inl (fun _ => 0))), (qa 47, .inl (cI, 4, .inl (fun _ => 0))), (qa 48, .inl (cI, 4, .inl (fun _ => 0))), (qa 49, .inl (cI, 4, .inl (fun _ => 0)))] := hD
  refine lv_iinc (v := 2) (lv' := [(1, .int 2), (0, .ref h)]) hx hb dX11_oneTick_56 hl (k := 0) rfl (by decide) (by decide) rfl (fun ls hl => ?_)
  refine lv_goto (tgt := 46) hx hb dX11_oneTick_59 (by decide) ?_
  refine lv_iload_n hx hb dX11_oneTick_46 rfl (lv_at hl 0 rfl) ?_
  refine lv_iconst (v := 4) hx hb dX11_oneTick_47 (by decide) ?_
  refine lv_icmp_ge (tgt := 62) hx hb dX11_oneTick_48 (by decide) (fun c_48_3 => absurd c_48_3 (by decide)) (fun c_48_3 => ?_)
  refine lv_aload_n hx hb dX11_oneTick_51 rfl (lv_at hl 1 rfl) ?_
  refine lv_iload_n hx hb dX11_oneTick_52 rfl (lv_at hl 0 rfl) ?_
  refine g_callv (wr := [(qa 29, .inl (cI, 1300, .inl fl)), (qa 30, .inl (cI, 1300, .inl fr_)), (qa 51, .inl (cZ, 4, .inl (fun _ => 0))), (qa 11, .inl (cI, 2048, .inl (fun _ => 0))), (qa 12, .inl (cI, 128, .inl (fun _ => 0))), (qa 25, .inl (cZ, 8192, .inl fz2_28)), (qa 46, .inl (cI, 4, .inl (fun _ => 0)))]) (va_runV (As := [.int 2]) (rest := []) ⟨hx, hb, hml, hown, hts⟩ (m_acts0 l dC dI H.size h qa (nI kk) x2 x3 x4 1 0 6 125 0 (nI ro2_28) 0 0 ag2_28 x22 0 x24 (-1) (-1) (-1) cI 2 (by decide)) (cwV 1 hts (gG_V kw_852 kw_853 kw_854 kw_5 kw_855) rfl rfl rfl (by decide +kernel) ⟨Nat.le_of_ble_eq_true rfl, Nat.le_of_ble_eq_true rfl⟩) (g_preV (C := RX11) (T := TX11) (N := 53) hP hD hK hS hA hN hZ (q0 := 7) rfl rfl [7, 8, 9, 10, 11, 12] (by decide) rfl [0] rfl) rfl rfl hl.1 rfl (lv_room (Nat.le_of_ble_eq_true rfl)) dX11_oneTick_53 ⟨Nat.le_of_ble_eq_true rfl, Nat.le_of_ble_eq_true rfl⟩) hP hD hK hS hA [7, 8, 9, 10, 11, 12] [0, 1, 2, 3, 4, 5, 6] rfl rfl (by decide) (by decide) (fun w ty1 H locs hw_53 hP hD _ hS => ?_)
  have hu := hw_53
  cases hu
  have hP : va_P (dC, dI) vwCl [(qa 29, .inl (cI, 1300, .inl fl)), (qa 30, .inl (cI, 1300, .inl fr_)), (qa 51, .inl (cZ, 4, .inl (fun _ => 0))), (qa 11, .inl (cI, 2048, .inl (fun _ => 0))), (qa 12, .inl (cI, 128, .inl (fun _ => 0))), (qa 25, .inl (cZ, 8192, .inl fz2_28)), (qa 46, .inl (cI, 4, .inl (fun _ => 0))), (h, .inr (10, mdF qa (nI kk) x2 x3 x4 1 0 6 125 0 (nI ro2_28) 0 0 ag2_28 x22 0 x24 (-1) (-1) (-1))), (qa 32, .inl (cI, 4, .inl (fun _ => 0))), (qa 34, .inl (cI, 4, .inl (fun _ => 0))), (qa 47, .inl (cI, 4, .inl (fun _ => 0))), (qa 48, .inl (cI, 4, .inl (fun _ => 0))), (qa 49, .inl (cI, 4, .inl (fun _ => 0)))] H := hP
  have hD : va_D A [(qa 29, .inl (cI, 1300, .inl fl)), (qa 30, .inl (cI, 1300, .inl fr_)), (qa 51, .inl (cZ, 4, .inl (fun _ => 0))), (qa 11, .inl (cI, 2048, .inl (fun _ => 0))), (qa 12, .inl (cI, 128, .inl (fun _ => 0))), (qa 25, .inl (cZ, 8192, .inl fz2_28)), (qa 46, .inl (cI, 4, .inl (fun _ => 0))), (h, .inr (10, mdF qa (nI kk) x2 x3 x4 1 0 6 125 0 (nI ro2_28) 0 0 ag2_28 x22 0 x24 (-1) (-1) (-1))), (qa 32, .inl (cI, 4, .inl (fun _ => 0))), (qa 34, .inl (cI, 4, .inl (fun _ => 0))), (qa 47, .inl (cI, 4, .inl (fun _ => 0))), (qa 48, .inl (cI, 4, .inl (fun _ => 0))), (qa 49, .inl (cI, 4, .inl (fun _ => 0)))] := hD
  refine lv_iinc (v := 3) (lv' := [(1, .int 3), (0, .ref h)]) hx hb dX11_oneTick_56 hl (k := 0) rfl (by decide) (by decide) rfl (fun ls hl => ?_)
  refine lv_goto (tgt := 46) hx hb dX11_oneTick_59 (by decide) ?_
  refine lv_iload_n hx hb dX11_oneTick_46 rfl (lv_at hl 0 rfl) ?_
  refine lv_iconst (v := 4) hx hb dX11_oneTick_47 (by decide) ?_
  refine lv_icmp_ge (tgt := 62) hx hb dX11_oneTick_48 (by decide) (fun c_48_4 => absurd c_48_4 (by decide)) (fun c_48_4 => ?_)
  refine lv_aload_n hx hb dX11_oneTick_51 rfl (lv_at hl 1 rfl) ?_
  refine lv_iload_n hx hb dX11_oneTick_52 rfl (lv_at hl 0 rfl) ?_
  refine g_callv (wr := [(qa 29, .inl (cI, 1300, .inl fl)), (qa 30, .inl (cI, 1300, .inl fr_)), (qa 51, .inl (cZ, 4, .inl (fun _ => 0))), (qa 11, .inl (cI, 2048, .inl (fun _ => 0))), (qa 12, .inl (cI, 128, .inl (fun _ => 0))), (qa 25, .inl (cZ, 8192, .inl fz2_28)), (qa 46, .inl (cI, 4, .inl (fun _ => 0)))]) (va_runV (As := [.int 3]) (rest := []) ⟨hx, hb, hml, hown, hts⟩ (m_acts0 l dC dI H.size h qa (nI kk) x2 x3 x4 1 0 6 125 0 (nI ro2_28) 0 0 ag2_28 x22 0 x24 (-1) (-1) (-1) cI 3 (by decide)) (cwV 1 hts (gG_V kw_852 kw_853 kw_854 kw_5 kw_855) rfl rfl rfl (by decide +kernel) ⟨Nat.le_of_ble_eq_true rfl, Nat.le_of_ble_eq_true rfl⟩) (g_preV (C := RX11) (T := TX11) (N := 53) hP hD hK hS hA hN hZ (q0 := 7) rfl rfl [7, 8, 9, 10, 11, 12] (by decide) rfl [0] rfl) rfl rfl hl.1 rfl (lv_room (Nat.le_of_ble_eq_true rfl)) dX11_oneTick_53 ⟨Nat.le_of_ble_eq_true rfl, Nat.le_of_ble_eq_true rfl⟩) hP hD hK hS hA [7, 8, 9, 10, 11, 12] [0, 1, 2, 3, 4, 5, 6] rfl rfl (by decide) (by decide) (fun w ty1 H locs hw_53 hP hD _ hS => ?_)
  have hu := hw_53
  cases hu
  have hP : va_P (dC, dI) vwCl [(qa 29, .inl (cI, 1300, .inl fl)), (qa 30, .inl (cI, 1300, .inl fr_)), (qa 51, .inl (cZ, 4, .inl (fun _ => 0))), (qa 11, .inl (cI, 2048, .inl (fun _ => 0))), (qa 12, .inl (cI, 128, .inl (fun _ => 0))), (qa 25, .inl (cZ, 8192, .inl fz2_28)), (qa 46, .inl (cI, 4, .inl (fun _ => 0))), (h, .inr (10, mdF qa (nI kk) x2 x3 x4 1 0 6 125 0 (nI ro2_28) 0 0 ag2_28 x22 0 x24 (-1) (-1) (-1))), (qa 32, .inl (cI, 4, .inl (fun _ => 0))), (qa 34, .inl (cI, 4, .inl (fun _ => 0))), (qa 47, .inl (cI, 4, .inl (fun _ => 0))), (qa 48, .inl (cI, 4, .inl (fun _ => 0))), (qa 49, .inl (cI, 4, .inl (fun _ => 0)))] H := hP
  have hD : va_D A [(qa 29, .inl (cI, 1300, .inl fl)), (qa 30, .inl (cI, 1300, .inl fr_)), (qa 51, .inl (cZ, 4, .inl (fun _ => 0))), (qa 11, .inl (cI, 2048, .inl (fun _ => 0))), (qa 12, .inl (cI, 128, .inl (fun _ => 0))), (qa 25, .inl (cZ, 8192, .inl fz2_28)), (qa 46, .inl (cI, 4, .inl (fun _ => 0))), (h, .inr (10, mdF qa (nI kk) x2 x3 x4 1 0 6 125 0 (nI ro2_28) 0 0 ag2_28 x22 0 x24 (-1) (-1) (-1))), (qa 32, .inl (cI, 4, .inl (fun _ => 0))), (qa 34, .inl (cI, 4, .inl (fun _ => 0))), (qa 47, .inl (cI, 4, .inl (fun _ => 0))), (qa 48, .inl (cI, 4, .inl (fun _ => 0))), (qa 49, .inl (cI, 4, .inl (fun _ => 0)))] := hD
  refine lv_iinc (v := 4) (lv' := [(1, .int 4), (0, .ref h)]) hx hb dX11_oneTick_56 hl (k := 0) rfl (by decide) (by decide) rfl (fun ls hl => ?_)
  refine lv_goto (tgt := 46) hx hb dX11_oneTick_59 (by decide) ?_
  refine lv_iload_n hx hb dX11_oneTick_46 rfl (lv_at hl 0 rfl) ?_
  refine lv_iconst (v := 4) hx hb dX11_oneTick_47 (by decide) ?_
  refine lv_icmp_ge (tgt := 62) hx hb dX11_oneTick_48 (by decide) (fun c_48_5 => ?_) (fun c_48_5 => absurd c_48_5 (by decide))
  refine lv_aload_n hx hb dX11_oneTick_62 rfl (lv_at hl 1 rfl) ?_
  refine g_callv (wr := [(qa 11, .inl (cI, 2048, .inl (fun _ => 0))), (qa 12, .inl (cI, 128, .inl (fun _ => 0))), (qa 25, .inl (cZ, 8192, .inl fz2_28)), (qa 46, .inl (cI, 4, .inl (fun _ => 0))), (qa 32, .inl (cI, 4, .inl (fun _ => 0))), (qa 34, .inl (cI, 4, .inl (fun _ => 0))), (qa 47, .inl (cI, 4, .inl (fun _ => 0))), (qa 48, .inl (cI, 4, .inl (fun _ => 0))), (qa 49, .inl (cI, 4, .inl (fun _ => 0)))]) (va_runV (As := []) (rest := []) ⟨hx, hb, hml, hown, hts⟩ (m_mix0 l dC dI H.size h qa x2 x3 x4 1 0 6 0 (nI ro2_28) 0 0 ag2_28 x22 0 x24 (-1) (-1) (-1) cI cZ kk fl fr_ (hkk)) (cwV 0 hts (gG_V kw_914 kw_915 kw_916 kw_5 kw_917) rfl rfl rfl (by decide +kernel) ⟨Nat.le_of_ble_eq_true rfl, Nat.le_of_ble_eq_true rfl⟩) (g_preV (C := RX11) (T := TX11) (N := 53) hP hD hK hS hA hN hZ (q0 := 7) rfl rfl [7, 0, 1, 2] (by decide) rfl [0, 1] rfl) rfl rfl hl.1 rfl (lv_room (Nat.le_of_ble_eq_true rfl)) dX11_oneTick_63 ⟨Nat.le_of_ble_eq_true rfl, Nat.le_of_ble_eq_true rfl⟩) hP hD hK hS hA [7, 0, 1, 2] [3, 4, 5, 6, 8, 9, 10, 11, 12] rfl rfl (by decide) (by decide) (fun w ty1 H locs hw_63 hP hD _ hS => ?_)
  rcases hw_63 with ⟨fr2_63, sm2_63, fl2_63, fr_2_63, hu⟩
  cases hu
  have hP : va_P (dC, dI) vwCl [(qa 11, .inl (cI, 2048, .inl (fun _ => 0))), (qa 12, .inl (cI, 128, .inl (fun _ => 0))), (qa 25, .inl (cZ, 8192, .inl fz2_28)), (qa 46, .inl (cI, 4, .inl (fun _ => 0))), (qa 32, .inl (cI, 4, .inl (fun _ => 0))), (qa 34, .inl (cI, 4, .inl (fun _ => 0))), (qa 47, .inl (cI, 4, .inl (fun _ => 0))), (qa 48, .inl (cI, 4, .inl (fun _ => 0))), (qa 49, .inl (cI, 4, .inl (fun _ => 0))), (h, .inr (10, mdF qa (nI kk) x2 x3 x4 1 0 6 125 0 (nI ro2_28) 0 0 ag2_28 sm2_63 0 fr2_63 (-1) (-1) (-1))), (qa 29, .inl (cI, 1300, .inl fl2_63)), (qa 30, .inl (cI, 1300, .inl fr_2_63)), (qa 51, .inl (cZ, 4, .inl (fun _ => 0)))] H := hP
  have hD : va_D A [(qa 11, .inl (cI, 2048, .inl (fun _ => 0))), (qa 12, .inl (cI, 128, .inl (fun _ => 0))), (qa 25, .inl (cZ, 8192, .inl fz2_28)), (qa 46, .inl (cI, 4, .inl (fun _ => 0))), (qa 32, .inl (cI, 4, .inl (fun _ => 0))), (qa 34, .inl (cI, 4, .inl (fun _ => 0))), (qa 47, .inl (cI, 4, .inl (fun _ => 0))), (qa 48, .inl (cI, 4, .inl (fun _ => 0))), (qa 49, .inl (cI, 4, .inl (fun _ => 0))), (h, .inr (10, mdF qa (nI kk) x2 x3 x4 1 0 6 125 0 (nI ro2_28) 0 0 ag2_28 sm2_63 0 fr2_63 (-1) (-1) (-1))), (qa 29, .inl (cI, 1300, .inl fl2_63)), (qa 30, .inl (cI, 1300, .inl fr_2_63)), (qa 51, .inl (cZ, 4, .inl (fun _ => 0)))] := hD
  refine lv_aload_n hx hb dX11_oneTick_66 rfl (lv_at hl 1 rfl) ?_
  refine lv_dup hx hb dX11_oneTick_67 rfl ?_
  refine va_get (D := (dC, dI)) (ci := 10) (v := .int 0) (C := RX11) (T := TX11) (N := 53) hx hb hts iwX11 hown hK hP 9 rfl rfl 23 (by decide) (hts (.fieldLink RX11 224 "ModulePlayerModel" "ticks" "I") (List.mem_cons_of_mem _ kw_227)) (fun _ h9 => h9) rfl dX11_oneTick_68 ?_
  refine lv_iconst (v := 1) hx hb dX11_oneTick_71 (by decide) ?_
  refine lv_iadd hx hb dX11_oneTick_72 ?_
  refine g_topi (y := 1) (by decide) ?_
  refine va_put (D := (dC, dI)) (ci := 10) (v := .int 1) (ty := tyX11 23) (C := RX11) (T := TX11) (N := 53) hx hb hts iwX11 tyX11 tyX11_ok nmX11 hown hK hP hD hS 9 rfl rfl 23 (by decide) (hts (.fieldLink RX11 224 "ModulePlayerModel" "ticks" "I") (List.mem_cons_of_mem _ kw_227)) (fun _ h9 => h9) rfl (by decide +kernel) (rfl) (rfl) (Nat.le_of_ble_eq_true rfl) dX11_oneTick_73 (fun H locs hP hD hS => ?_)
  have hP : va_P (dC, dI) vwCl [(qa 11, .inl (cI, 2048, .inl (fun _ => 0))), (qa 12, .inl (cI, 128, .inl (fun _ => 0))), (qa 25, .inl (cZ, 8192, .inl fz2_28)), (qa 46, .inl (cI, 4, .inl (fun _ => 0))), (qa 32, .inl (cI, 4, .inl (fun _ => 0))), (qa 34, .inl (cI, 4, .inl (fun _ => 0))), (qa 47, .inl (cI, 4, .inl (fun _ => 0))), (qa 48, .inl (cI, 4, .inl (fun _ => 0))), (qa 49, .inl (cI, 4, .inl (fun _ => 0))), (h, .inr (10, mdF qa (nI kk) x2 x3 x4 1 0 6 125 0 (nI ro2_28) 0 0 ag2_28 sm2_63 1 fr2_63 (-1) (-1) (-1))), (qa 29, .inl (cI, 1300, .inl fl2_63)), (qa 30, .inl (cI, 1300, .inl fr_2_63)), (qa 51, .inl (cZ, 4, .inl (fun _ => 0)))] H := hP
  have hD : va_D A [(qa 11, .inl (cI, 2048, .inl (fun _ => 0))), (qa 12, .inl (cI, 128, .inl (fun _ => 0))), (qa 25, .inl (cZ, 8192, .inl fz2_28)), (qa 46, .inl (cI, 4, .inl (fun _ => 0))), (qa 32, .inl (cI, 4, .inl (fun _ => 0))), (qa 34, .inl (cI, 4, .inl (fun _ => 0))), (qa 47, .inl (cI, 4, .inl (fun _ => 0))), (qa 48, .inl (cI, 4, .inl (fun _ => 0))), (qa 49, .inl (cI, 4, .inl (fun _ => 0))), (h, .inr (10, mdF qa (nI kk) x2 x3 x4 1 0 6 125 0 (nI ro2_28) 0 0 ag2_28 sm2_63 1 fr2_63 (-1) (-1) (-1))), (qa 29, .inl (cI, 1300, .inl fl2_63)), (qa 30, .inl (cI, 1300, .inl fr_2_63)), (qa 51, .inl (cZ, 4, .inl (fun _ => 0)))] := hD
  have hP9 := hP.sub (ws' := [(h, .inr (10, mdF qa (nI kk) x2 x3 x4 1 0 6 125 0 (nI ro2_28) 0 0 ag2_28 sm2_63 1 fr2_63 (-1) (-1) (-1))), (qa 11, .inl (cI, 2048, .inl (fun _ => 0))), (qa 12, .inl (cI, 128, .inl (fun _ => 0))), (qa 25, .inl (cZ, 8192, .inl fz2_28)), (qa 29, .inl (cI, 1300, .inl fl2_63)), (qa 30, .inl (cI, 1300, .inl fr_2_63)), (qa 32, .inl (cI, 4, .inl (fun _ => 0))), (qa 34, .inl (cI, 4, .inl (fun _ => 0))), (qa 46, .inl (cI, 4, .inl (fun _ => 0))), (qa 47, .inl (cI, 4, .inl (fun _ => 0))), (qa 48, .inl (cI, 4, .inl (fun _ => 0))), (qa 49, .inl (cI, 4, .inl (fun _ => 0))), (qa 51, .inl (cZ, 4, .inl (fun _ => 0)))]) [9, 0, 1, 2, 10, 11, 4, 5, 3, 6, 7, 8, 12] rfl
  have hD9 := hD.sub (ws' := [(h, .inr (10, mdF qa (nI kk) x2 x3 x4 1 0 6 125 0 (nI ro2_28) 0 0 ag2_28 sm2_63 1 fr2_63 (-1) (-1) (-1))), (qa 11, .inl (cI, 2048, .inl (fun _ => 0))), (qa 12, .inl (cI, 128, .inl (fun _ => 0))), (qa 25, .inl (cZ, 8192, .inl fz2_28)), (qa 29, .inl (cI, 1300, .inl fl2_63)), (qa 30, .inl (cI, 1300, .inl fr_2_63)), (qa 32, .inl (cI, 4, .inl (fun _ => 0))), (qa 34, .inl (cI, 4, .inl (fun _ => 0))), (qa 46, .inl (cI, 4, .inl (fun _ => 0))), (qa 47, .inl (cI, 4, .inl (fun _ => 0))), (qa 48, .inl (cI, 4, .inl (fun _ => 0))), (qa 49, .inl (cI, 4, .inl (fun _ => 0))), (qa 51, .inl (cZ, 4, .inl (fun _ => 0)))]) [9, 0, 1, 2, 10, 11, 4, 5, 3, 6, 7, 8, 12] (by decide) rfl
  have hK9 := hK.sub (tys' := []) [] rfl
  exact W.vret hx hb hr (fun t ht hW => ⟨⟨([(h, .inr (10, mdF qa (nI kk) x2 x3 x4 1 0 6 125 0 (nI ro2_28) 0 0 ag2_28 sm2_63 1 fr2_63 (-1) (-1) (-1))), (qa 11, .inl (cI, 2048, .inl (fun _ => 0))), (qa 12, .inl (cI, 128, .inl (fun _ => 0))), (qa 25, .inl (cZ, 8192, .inl fz2_28)), (qa 29, .inl (cI, 1300, .inl fl2_63)), (qa 30, .inl (cI, 1300, .inl fr_2_63)), (qa 32, .inl (cI, 4, .inl (fun _ => 0))), (qa 34, .inl (cI, 4, .inl (fun _ => 0))), (qa 46, .inl (cI, 4, .inl (fun _ => 0))), (qa 47, .inl (cI, 4, .inl (fun _ => 0))), (qa 48, .inl (cI, 4, .inl (fun _ => 0))), (qa 49, .inl (cI, 4, .inl (fun _ => 0))), (qa 51, .inl (cZ, 4, .inl (fun _ => 0)))], []), rfl, ⟨ro2_28, 0, ag2_28, sm2_63, fr2_63, fz2_28, fl2_63, fr_2_63, rfl, hro2_28, (by decide)⟩, by rw [ht]; exact hP9, va_K.moved hW.alike hK9, hD9⟩, hS.F ht⟩) hS.2.2 dX11_oneTick_76

set_option maxHeartbeats 400000 in
set_option maxRecDepth 100000 in
theorem m_oneTickB (l : Launch) (dC : Nat → ClassId) (dI : Nat → Nat → Nat) (sz : Nat) (h : Nat) (qa : Nat → Nat) (x2 x3 x4 x21 x22 x24 : Int32) (cI cZ : ClassId) (kk ro tt nn : Nat) (fz fl fr_ : Nat → Int32) (hkk : kk ≤ 16000) (hro : ro < 64) (htt : tt < 6) (hnn : 0 < nn) (hnn2 : nn < 2147483648) : Met l yX11_oneTick (wsG (.code yX11_oneTick cX11_oneTick 2 none)) ({ frames := 3, cells := 0, slots := 0, locals := 67 }) (va_Pc [.ref h] (gP (dC, dI) [(cI, .int), (cZ, .boolean)] [(h, .inr (10, mdF qa (nI kk) x2 x3 x4 1 0 6 125 0 (nI ro) (nI tt) 0 x21 x22 (nI nn) x24 (-1) (-1) (-1))), (qa 11, .inl (cI, 2048, .inl (fun _ => 0))), (qa 12, .inl (cI, 128, .inl (fun _ => 0))), (qa 25, .inl (cZ, 8192, .inl fz)), (qa 29, .inl (cI, 1300, .inl fl)), (qa 30, .inl (cI, 1300, .inl fr_)), (qa 32, .inl (cI, 4, .inl (fun _ => 0))), (qa 34, .inl (cI, 4, .inl (fun _ => 0))), (qa 46, .inl (cI, 4, .inl (fun _ => 0))), (qa 47, .inl (cI, 4, .inl (fun _ => 0))), (qa 48, .inl (cI, 4, .inl (fun _ => 0))), (qa 49, .inl (cI, 4, .inl (fun _ => 0))), (qa 51, .inl (cZ, 4, .inl (fun _ => 0)))] sz)) (va_Qv (fun u : va_W × gT => ∃ (ro2 : Nat) (tt2 : Nat) (ag2 : Int32) (sm2 : Int32) (fr2 : Int32) (fz2 : Nat → Int32) (fl2 : Nat → Int32) (fr_2 : Nat → Int32), u = ([(h, .inr (10, mdF qa (nI kk) x2 x3 x4 1 0 6 125 0 (nI ro2) (nI tt2) 0 ag2 sm2 (nI (nn + 1)) fr2 (-1) (-1) (-1))), (qa 11, .inl (cI, 2048, .inl (fun _ => 0))), (qa 12, .inl (cI, 128, .inl (fun _ => 0))), (qa 25, .inl (cZ, 8192, .inl fz2)), (qa 29, .inl (cI, 1300, .inl fl2)), (qa 30, .inl (cI, 1300, .inl fr_2)), (qa 32, .inl (cI, 4, .inl (fun _ => 0))), (qa 34, .inl (cI, 4, .inl (fun _ => 0))), (qa 46, .inl (cI, 4, .inl (fun _ => 0))), (qa 47, .inl (cI, 4, .inl (fun _ => 0))), (qa 48, .inl (cI, 4, .inl (fun _ => 0))), (qa 49, .inl (cI, 4, .inl (fun _ => 0))), (qa 51, .inl (cZ, 4, .inl (fun _ => 0)))], []) ∧ ro2 < 64 ∧ tt2 < 6) (gB (dC, dI) (va_A [(h, .inr (10, mdF qa (nI kk) x2 x3 x4 1 0 6 125 0 (nI ro) (nI tt) 0 x21 x22 (nI nn) x24 (-1) (-1) (-1))), (qa 11, .inl (cI, 2048, .inl (fun _ => 0))), (qa 12, .inl (cI, 128, .inl (fun _ => 0))), (qa 25, .inl (cZ, 8192, .inl fz)), (qa 29, .inl (cI, 1300, .inl fl)), (qa 30, .inl (cI, 1300, .inl fr_)), (qa 32, .inl (cI, 4, .inl (fun _ => 0))), (qa 34, .inl (cI, 4, .inl (fun _ => 0))), (qa 46, .inl (cI, 4, .inl (fun _ => 0))), (qa 47, .inl (cI, 4, .inl (fun _ => 0))), (qa 48, .inl (cI, 4, .inl (fun _ => 0))), (qa 49, .inl (cI, 4, .inl (fun _ => 0))), (qa 51, .inl (cZ, 4, .inl (fun _ => 0)))] sz)) (va_A [(h, .inr (10, mdF qa (nI kk) x2 x3 x4 1 0 6 125 0 (nI ro) (nI tt) 0 x21 x22 (nI nn) x24 (-1) (-1) (-1))), (qa 11, .inl (cI, 2048, .inl (fun _ => 0))), (qa 12, .inl (cI, 128, .inl (fun _ => 0))), (qa 25, .inl (cZ, 8192, .inl fz)), (qa 29, .inl (cI, 1300, .inl fl)), (qa 30, .inl (cI, 1300, .inl fr_)), (qa 32, .inl (cI, 4, .inl (fun _ => 0))), (qa 34, .inl (cI, 4, .inl (fun _ => 0))), (qa 46, .inl (cI, 4, .inl (fun _ => 0))), (qa 47, .inl (cI, 4, .inl (fun _ => 0))), (qa 48, .inl (cI, 4, .inl (fun _ => 0))), (qa 49, .inl (cI, 4, .inl (fun _ => 0))), (qa 51, .inl (cZ, 4, .inl (fun _ => 0)))] sz)) 0 0 (va_A [(h, .inr (10, mdF qa (nI kk) x2 x3 x4 1 0 6 125 0 (nI ro) (nI tt) 0 x21 x22 (nI nn) x24 (-1) (-1) (-1))), (qa 11, .inl (cI, 2048, .inl (fun _ => 0))), (qa 12, .inl (cI, 128, .inl (fun _ => 0))), (qa 25, .inl (cZ, 8192, .inl fz)), (qa 29, .inl (cI, 1300, .inl fl)), (qa 30, .inl (cI, 1300, .inl fr_)), (qa 32, .inl (cI, 4, .inl (fun _ => 0))), (qa 34, .inl (cI, 4, .inl (fun _ => 0))), (qa 46, .inl (cI, 4, .inl (fun _ => 0))), (qa 47, .inl (cI, 4, .inl (fun _ => 0))), (qa 48, .inl (cI, 4, .inl (fun _ => 0))), (qa 49, .inl (cI, 4, .inl (fun _ => 0))), (qa 51, .inl (cZ, 4, .inl (fun _ => 0)))] sz) := by
  refine Met.ofW (cc := cX11_oneTick) (maxL := 2) (ret := none) (by decide) rfl ?_
  intro p e s m args below meth c s₁ B hml hv
  obtain ⟨rfl, hsz, hP, hK, hD0, hN, hZ⟩ := hv
  have hx := B.exec
  have hb := B.bytes
  have hr := B.returns
  have hts := atoms_spec (ws := (wsG (.code yX11_oneTick cX11_oneTick 2 none))) B.pre
  have hown : s.vm.findClass RX11 = some m.cls := findClass_of_methodNamed B.named
  have hlocks := B.notSynchronized
  subst hsz
  have hD := hD0.self (sz := s.heap.size)
  generalize hAe : va_A [(h, .inr (10, mdF qa (nI kk) x2 x3 x4 1 0 6 125 0 (nI ro) (nI tt) 0 x21 x22 (nI nn) x24 (-1) (-1) (-1))), (qa 11, .inl (cI, 2048, .inl (fun _ => 0))), (qa 12, .inl (cI, 128, .inl (fun _ => 0))), (qa 25, .inl (cZ, 8192, .inl fz)), (qa 29, .inl (cI, 1300, .inl fl)), (qa 30, .inl (cI, 1300, .inl fr_)), (qa 32, .inl (cI, 4, .inl (fun _ => 0))), (qa 34, .inl (cI, 4, .inl (fun _ => 0))), (qa 46, .inl (cI, 4, .inl (fun _ => 0))), (qa 47, .inl (cI, 4, .inl (fun _ => 0))), (qa 48, .inl (cI, 4, .inl (fun _ => 0))), (qa 49, .inl (cI, 4, .inl (fun _ => 0))), (qa 51, .inl (cZ, 4, .inl (fun _ => 0)))] s.heap.size = A at hD hZ ⊢
  have hA : ∀ q : Nat, s.heap.size ≤ q → A q := fun q h => by rw [← hAe]; exact Or.inr h
  have hl := lv_entry ([.ref h]) (n := 2) (Nat.le_of_ble_eq_true rfl)
  rw [lg_entry_eq]
  generalize (lg_sl ([.ref h]) ++ List.replicate (2 - (lg_sl ([.ref h])).length) Slot.unset).toArray = ls at hl ⊢
  have hl : lv_has ls 2 [(0, .ref h)] := hl
  refine g_start (A := A) hP (fun H locs hP hS => ?_)
  refine lv_aload_n hx hb dX11_oneTick_0 rfl (lv_at hl 0 rfl) ?_
  refine va_get (D := (dC, dI)) (ci := 10) (v := .int (nI nn)) (C := RX11) (T := TX11) (N := 53) hx hb hts iwX11 hown hK hP 0 rfl rfl 23 (by decide) (hts (.fieldLink RX11 224 "ModulePlayerModel" "ticks" "I") (List.mem_cons_of_mem _ kw_227)) (fun _ h9 => h9) rfl dX11_oneTick_1 ?_
  refine lv_if_eq (tgt := 27) hx hb dX11_oneTick_4 (by decide) (fun c_4 => absurd c_4 (nI_ne0 hnn hnn2)) (fun c_4 => ?_)
  refine lv_aload_n hx hb dX11_oneTick_7 rfl (lv_at hl 0 rfl) ?_
  refine va_get (D := (dC, dI)) (ci := 10) (v := .int (nI tt)) (C := RX11) (T := TX11) (N := 53) hx hb hts iwX11 hown hK hP 0 rfl rfl 19 (by decide) (hts (.fieldLink RX11 209 "ModulePlayerModel" "tick" "I") (List.mem_cons_of_mem _ kw_222)) (fun _ h9 => h9) rfl dX11_oneTick_8 ?_
  refine lv_iconst (v := 1) hx hb dX11_oneTick_11 (by decide) ?_
  refine lv_iadd hx hb dX11_oneTick_12 ?_
  refine g_topi (y := nI (tt + 1)) (nI_1 tt) ?_
  refine lv_aload_n hx hb dX11_oneTick_13 rfl (lv_at hl 0 rfl) ?_
  refine va_get (D := (dC, dI)) (ci := 10) (v := .int 6) (C := RX11) (T := TX11) (N := 53) hx hb hts iwX11 hown hK hP 0 rfl rfl 15 (by decide) (hts (.fieldLink RX11 197 "ModulePlayerModel" "speed" "I") (List.mem_cons_of_mem _ kw_218)) (fun _ h9 => h9) rfl dX11_oneTick_14 ?_
  refine lv_iconst (v := 1) hx hb dX11_oneTick_17 (by decide) ?_
  refine lv_aload_n hx hb dX11_oneTick_18 rfl (lv_at hl 0 rfl) ?_
  refine va_get (D := (dC, dI)) (ci := 10) (v := .int 0) (C := RX11) (T := TX11) (N := 53) hx hb hts iwX11 hown hK hP 0 rfl rfl 20 (by decide) (hts (.fieldLink RX11 215 "ModulePlayerModel" "delay" "I") (List.mem_cons_of_mem _ kw_224)) (fun _ h9 => h9) rfl dX11_oneTick_19 ?_
  refine lv_iadd hx hb dX11_oneTick_22 ?_
  refine g_topi (y := 1) (by decide) ?_
  refine lv_imul hx hb dX11_oneTick_23 ?_
  refine g_topi (y := 6) (by decide) ?_
  refine lv_icmp_lt (tgt := 34) hx hb dX11_oneTick_24 (by decide) (fun c_24 => ?_) (fun c_24 => ?_)
  · refine lv_aload_n hx hb dX11_oneTick_34 rfl (lv_at hl 0 rfl) ?_
    refine lv_dup hx hb dX11_oneTick_35 rfl ?_
    refine va_get (D := (dC, dI)) (ci := 10) (v := .int (nI tt)) (C := RX11) (T := TX11) (N := 53) hx hb hts iwX11 hown hK hP 0 rfl rfl 19 (by decide) (hts (.fieldLink RX11 209 "ModulePlayerModel" "tick" "I") (List.mem_cons_of_mem _ kw_222)) (fun _ h9 => h9) rfl dX11_oneTick_36 ?_
    refine lv_iconst (v := 1) hx hb dX11_oneTick_39 (by decide) ?_
    refine lv_iadd hx hb dX11_oneTick_40 ?_
    refine g_topi (y := nI (tt + 1)) (nI_1 tt) ?_
    refine va_put (D := (dC, dI)) (ci := 10) (v := .int (nI (tt + 1))) (ty := tyX11 19) (C := RX11) (T := TX11) (N := 53) hx hb hts iwX11 tyX11 tyX11_ok nmX11 hown hK hP hD hS 0 rfl rfl 19 (by decide) (hts (.fieldLink RX11 209 "ModulePlayerModel" "tick" "I") (List.mem_cons_of_mem _ kw_222)) (fun _ h9 => h9) rfl (by decide +kernel) (rfl) (rfl) (Nat.le_of_ble_eq_true rfl) dX11_oneTick_41 (fun H locs hP hD hS => ?_)
    have hP : va_P (dC, dI) vwCl [(h, .inr (10, mdF qa (nI kk) x2 x3 x4 1 0 6 125 0 (nI ro) (nI (tt + 1)) 0 x21 x22 (nI nn) x24 (-1) (-1) (-1))), (qa 11, .inl (cI, 2048, .inl (fun _ => 0))), (qa 12, .inl (cI, 128, .inl (fun _ => 0))), (qa 25, .inl (cZ, 8192, .inl fz)), (qa 29, .inl (cI, 1300, .inl fl)), (qa 30, .inl (cI, 1300, .inl fr_)), (qa 32, .inl (cI, 4, .inl (fun _ => 0))), (qa 34, .inl (cI, 4, .inl (fun _ => 0))), (qa 46, .inl (cI, 4, .inl (fun _ => 0))), (qa 47, .inl (cI, 4, .inl (fun _ => 0))), (qa 48, .inl (cI, 4, .inl (fun _ => 0))), (qa 49, .inl (cI, 4, .inl (fun _ => 0))), (qa 51, .inl (cZ, 4, .inl (fun _ => 0)))] H := hP
    have hD : va_D A [(h, .inr (10, mdF qa (nI kk) x2 x3 x4 1 0 6 125 0 (nI ro) (nI (tt + 1)) 0 x21 x22 (nI nn) x24 (-1) (-1) (-1))), (qa 11, .inl (cI, 2048, .inl (fun _ => 0))), (qa 12, .inl (cI, 128, .inl (fun _ => 0))), (qa 25, .inl (cZ, 8192, .inl fz)), (qa 29, .inl (cI, 1300, .inl fl)), (qa 30, .inl (cI, 1300, .inl fr_)), (qa 32, .inl (cI, 4, .inl (fun _ => 0))), (qa 34, .inl (cI, 4, .inl (fun _ => 0))), (qa 46, .inl (cI, 4, .inl (fun _ => 0))), (qa 47, .inl (cI, 4, .inl (fun _ => 0))), (qa 48, .inl (cI, 4, .inl (fun _ => 0))), (qa 49, .inl (cI, 4, .inl (fun _ => 0))), (qa 51, .inl (cZ, 4, .inl (fun _ => 0)))] := hD
    refine lv_iconst (v := 0) hx hb dX11_oneTick_44 (by decide) ?_
    refine lv_istore_n (lv' := [(1, .int 0), (0, .ref h)]) hx hb dX11_oneTick_45 rfl hl (by decide) rfl (fun ls hl => ?_)
    refine lv_iload_n hx hb dX11_oneTick_46 rfl (lv_at hl 0 rfl) ?_
    refine lv_iconst (v := 4) hx hb dX11_oneTick_47 (by decide) ?_
    refine lv_icmp_ge (tgt := 62) hx hb dX11_oneTick_48 (by decide) (fun c_48 => absurd c_48 (by decide)) (fun c_48 => ?_)
    refine lv_aload_n hx hb dX11_oneTick_51 rfl (lv_at hl 1 rfl) ?_
    refine lv_iload_n hx hb dX11_oneTick_52 rfl (lv_at hl 0 rfl) ?_
    refine g_callv (wr := [(qa 11, .inl (cI, 2048, .inl (fun _ => 0))), (qa 12, .inl (cI, 128, .inl (fun _ => 0))), (qa 25, .inl (cZ, 8192, .inl fz)), (qa 29, .inl (cI, 1300, .inl fl)), (qa 30, .inl (cI, 1300, .inl fr_)), (qa 46, .inl (cI, 4, .inl (fun _ => 0))), (qa 51, .inl (cZ, 4, .inl (fun _ => 0)))]) (va_runV (As := [.int 0]) (rest := []) ⟨hx, hb, hml, hown, hts⟩ (m_acts0 l dC dI H.size h qa (nI kk) x2 x3 x4 1 0 6 125 0 (nI ro) (nI (tt + 1)) 0 x21 x22 (nI nn) x24 (-1) (-1) (-1) cI 0 (by decide)) (cwV 1 hts (gG_V kw_852 kw_853 kw_854 kw_5 kw_855) rfl rfl rfl (by decide +kernel) ⟨Nat.le_of_ble_eq_true rfl, Nat.le_of_ble_eq_true rfl⟩) (g_preV (C := RX11) (T := TX11) (N := 53) hP hD hK hS hA hN hZ (q0 := 0) rfl rfl [0, 6, 7, 9, 10, 11] (by decide) rfl [0] rfl) rfl rfl hl.1 rfl (lv_room (Nat.le_of_ble_eq_true rfl)) dX11_oneTick_53 ⟨Nat.le_of_ble_eq_true rfl, Nat.le_of_ble_eq_true rfl⟩) hP hD hK hS hA [0, 6, 7, 9, 10, 11] [1, 2, 3, 4, 5, 8, 12] rfl rfl (by decide) (by decide) (fun w ty1 H locs hw_53 hP hD _ hS => ?_)
    have hu := hw_53
    cases hu
    have hP : va_P (dC, dI) vwCl [(qa 11, .inl (cI, 2048, .inl (fun _ => 0))), (qa 12, .inl (cI, 128, .inl (fun _ => 0))), (qa 25, .inl (cZ, 8192, .inl fz)), (qa 29, .inl (cI, 1300, .inl fl)), (qa 30, .inl (cI, 1300, .inl fr_)), (qa 46, .inl (cI, 4, .inl (fun _ => 0))), (qa 51, .inl (cZ, 4, .inl (fun _ => 0))), (h, .inr (10, mdF qa (nI kk) x2 x3 x4 1 0 6 125 0 (nI ro) (nI (tt + 1)) 0 x21 x22 (nI nn) x24 (-1) (-1) (-1))), (qa 32, .inl (cI, 4, .inl (fun _ => 0))), (qa 34, .inl (cI, 4, .inl (fun _ => 0))), (qa 47, .inl (cI, 4, .inl (fun _ => 0))), (qa 48, .inl (cI, 4, .inl (fun _ => 0))), (qa 49, .inl (cI, 4, .inl (fun _ => 0)))] H := hP
    have hD : va_D A [(qa 11, .inl (cI, 2048, .inl (fun _ => 0))), (qa 12, .inl (cI, 128, .inl (fun _ => 0))), (qa 25, .inl (cZ, 8192, .inl fz)), (qa 29, .inl (cI, 1300, .inl fl)), (qa 30, .inl (cI, 1300, .inl fr_)), (qa 46, .inl (cI, 4, .inl (fun _ => 0))), (qa 51, .inl (cZ, 4, .inl (fun _ => 0))), (h, .inr (10, mdF qa (nI kk) x2 x3 x4 1 0 6 125 0 (nI ro) (nI (tt + 1)) 0 x21 x22 (nI nn) x24 (-1) (-1) (-1))), (qa 32, .inl (cI, 4, .inl (fun _ => 0))), (qa 34, .inl (cI, 4, .inl (fun _ => 0))), (qa 47, .inl (cI, 4, .inl (fun _ => 0))), (qa 48, .inl (cI, 4, .inl (fun _ => 0))), (qa 49, .inl (cI, 4, .inl (fun _ => 0)))] := hD
    refine lv_iinc (v := 1) (lv' := [(1, .int 1), (0, .ref h)]) hx hb dX11_oneTick_56 hl (k := 0) rfl (by decide) (by decide) rfl (fun ls hl => ?_)
    refine lv_goto (tgt := 46) hx hb dX11_oneTick_59 (by decide) ?_
    refine lv_iload_n hx hb dX11_oneTick_46 rfl (lv_at hl 0 rfl) ?_
    refine lv_iconst (v := 4) hx hb dX11_oneTick_47 (by decide) ?_
    refine lv_icmp_ge (tgt := 62) hx hb dX11_oneTick_48 (by decide) (fun c_48_2 => absurd c_48_2 (by decide)) (fun c_48_2 => ?_)
    refine lv_aload_n hx hb dX11_oneTick_51 rfl (lv_at hl 1 rfl) ?_
    refine lv_iload_n hx hb dX11_oneTick_52 rfl (lv_at hl 0 rfl) ?_
    refine g_callv (wr := [(qa 11, .inl (cI, 2048, .inl (fun _ => 0))), (qa 12, .inl (cI, 128, .inl (fun _ => 0))), (qa 25, .inl (cZ, 8192, .inl fz)), (qa 29, .inl (cI, 1300, .inl fl)), (qa 30, .inl (cI, 1300, .inl fr_)), (qa 46, .inl (cI, 4, .inl (fun _ => 0))), (qa 51, .inl (cZ, 4, .inl (fun _ => 0)))]) (va_runV (As := [.int 1]) (rest := []) ⟨hx, hb, hml, hown, hts⟩ (m_acts0 l dC dI H.size h qa (nI kk) x2 x3 x4 1 0 6 125 0 (nI ro) (nI (tt + 1)) 0 x21 x22 (nI nn) x24 (-1) (-1) (-1) cI 1 (by decide)) (cwV 1 hts (gG_V kw_852 kw_853 kw_854 kw_5 kw_855) rfl rfl rfl (by decide +kernel) ⟨Nat.le_of_ble_eq_true rfl, Nat.le_of_ble_eq_true rfl⟩) (g_preV (C := RX11) (T := TX11) (N := 53) hP hD hK hS hA hN hZ (q0 := 7) rfl rfl [7, 8, 9, 10, 11, 12] (by decide) rfl [0] rfl) rfl rfl hl.1 rfl (lv_room (Nat.le_of_ble_eq_true rfl)) dX11_oneTick_53 ⟨Nat.le_of_ble_eq_true rfl, Nat.le_of_ble_eq_true rfl⟩) hP hD hK hS hA [7, 8, 9, 10, 11, 12] [0, 1, 2, 3, 4, 5, 6] rfl rfl (by decide) (by decide) (fun w ty1 H locs hw_53 hP hD _ hS => ?_)
    have hu := hw_53
    cases hu
    have hP : va_P (dC, dI) vwCl [(qa 11, .inl (cI, 2048, .inl (fun _ => 0))), (qa 12, .inl (cI, 128, .inl (fun _ => 0))), (qa 25, .inl (cZ, 8192, .inl fz)), (qa 29, .inl (cI, 1300, .inl fl)), (qa 30, .inl (cI, 1300, .inl fr_)), (qa 46, .inl (cI, 4, .inl (fun _ => 0))), (qa 51, .inl (cZ, 4, .inl (fun _ => 0))), (h, .inr (10, mdF qa (nI kk) x2 x3 x4 1 0 6 125 0 (nI ro) (nI (tt + 1)) 0 x21 x22 (nI nn) x24 (-1) (-1) (-1))), (qa 32, .inl (cI, 4, .inl (fun _ => 0))), (qa 34, .inl (cI, 4, .inl (fun _ => 0))), (qa 47, .inl (cI, 4, .inl (fun _ => 0))), (qa 48, .inl (cI, 4, .inl (fun _ => 0))), (qa 49, .inl (cI, 4, .inl (fun _ => 0)))] H := hP
    have hD : va_D A [(qa 11, .inl (cI, 2048, .inl (fun _ => 0))), (qa 12, .inl (cI, 128, .inl (fun _ => 0))), (qa 25, .inl (cZ, 8192, .inl fz)), (qa 29, .inl (cI, 1300, .inl fl)), (qa 30, .inl (cI, 1300, .inl fr_)), (qa 46, .inl (cI, 4, .inl (fun _ => 0))), (qa 51, .inl (cZ, 4, .inl (fun _ => 0))), (h, .inr (10, mdF qa (nI kk) x2 x3 x4 1 0 6 125 0 (nI ro) (nI (tt + 1)) 0 x21 x22 (nI nn) x24 (-1) (-1) (-1))), (qa 32, .inl (cI, 4, .inl (fun _ => 0))), (qa 34, .inl (cI, 4, .inl (fun _ => 0))), (qa 47, .inl (cI, 4, .inl (fun _ => 0))), (qa 48, .inl (cI, 4, .inl (fun _ => 0))), (qa 49, .inl (cI, 4, .inl (fun _ => 0)))] := hD
    refine lv_iinc (v := 2) (lv' := [(1, .int 2), (0, .ref h)]) hx hb dX11_oneTick_56 hl (k := 0) rfl (by decide) (by decide) rfl (fun ls hl => ?_)
    refine lv_goto (tgt := 46) hx hb dX11_oneTick_59 (by decide) ?_
    refine lv_iload_n hx hb dX11_oneTick_46 rfl (lv_at hl 0 rfl) ?_
    refine lv_iconst (v := 4) hx hb dX11_oneTick_47 (by decide) ?_
    refine lv_icmp_ge (tgt := 62) hx hb dX11_oneTick_48 (by decide) (fun c_48_3 => absurd c_48_3 (by decide)) (fun c_48_3 => ?_)
    refine lv_aload_n hx hb dX11_oneTick_51 rfl (lv_at hl 1 rfl) ?_
    refine lv_iload_n hx hb dX11_oneTick_52 rfl (lv_at hl 0 rfl) ?_
    refine g_callv (wr := [(qa 11, .inl (cI, 2048, .inl (fun _ => 0))), (qa 12, .inl (cI, 128, .inl (fun _ => 0))), (qa 25, .inl (cZ, 8192, .inl fz)), (qa 29, .inl (cI, 1300, .inl fl)), (qa 30, .inl (cI, 1300, .inl fr_)), (qa 46, .inl (cI, 4, .inl (fun _ => 0))), (qa 51, .inl (cZ, 4, .inl (fun _ => 0)))]) (va_runV (As := [.int 2]) (rest := []) ⟨hx, hb, hml, hown, hts⟩ (m_acts0 l dC dI H.size h qa (nI kk) x2 x3 x4 1 0 6 125 0 (nI ro) (nI (tt + 1)) 0 x21 x22 (nI nn) x24 (-1) (-1) (-1) cI 2 (by decide)) (cwV 1 hts (gG_V kw_852 kw_853 kw_854 kw_5 kw_855) rfl rfl rfl (by decide +kernel) ⟨Nat.le_of_ble_eq_true rfl, Nat.le_of_ble_eq_true rfl⟩) (g_preV (C := RX11) (T := TX11) (N := 53) hP hD hK hS hA hN hZ (q0 := 7) rfl rfl [7, 8, 9, 10, 11, 12] (by decide) rfl [0] rfl) rfl rfl hl.1 rfl (lv_room (Nat.le_of_ble_eq_true rfl)) dX11_oneTick_53 ⟨Nat.le_of_ble_eq_true rfl, Nat.le_of_ble_eq_true rfl⟩) hP hD hK hS hA [7, 8, 9, 10, 11, 12] [0, 1, 2, 3, 4, 5, 6] rfl rfl (by decide) (by decide) (fun w ty1 H locs hw_53 hP hD _ hS => ?_)
    have hu := hw_53
    cases hu
    have hP : va_P (dC, dI) vwCl [(qa 11, .inl (cI, 2048, .inl (fun _ => 0))), (qa 12, .inl (cI, 128, .inl (fun _ => 0))), (qa 25, .inl (cZ, 8192, .inl fz)), (qa 29, .inl (cI, 1300, .inl fl)), (qa 30, .inl (cI, 1300, .inl fr_)), (qa 46, .inl (cI, 4, .inl (fun _ => 0))), (qa 51, .inl (cZ, 4, .inl (fun _ => 0))), (h, .inr (10, mdF qa (nI kk) x2 x3 x4 1 0 6 125 0 (nI ro) (nI (tt + 1)) 0 x21 x22 (nI nn) x24 (-1) (-1) (-1))), (qa 32, .inl (cI, 4, .inl (fun _ => 0))), (qa 34, .inl (cI, 4, .inl (fun _ => 0))), (qa 47, .inl (cI, 4, .inl (fun _ => 0))), (qa 48, .inl (cI, 4, .inl (fun _ => 0))), (qa 49, .inl (cI, 4, .inl (fun _ => 0)))] H := hP
    have hD : va_D A [(qa 11, .inl (cI, 2048, .inl (fun _ => 0))), (qa 12, .inl (cI, 128, .inl (fun _ => 0))), (qa 25, .inl (cZ, 8192, .inl fz)), (qa 29, .inl (cI, 1300, .inl fl)), (qa 30, .inl (cI, 1300, .inl fr_)), (qa 46, .inl (cI, 4, .inl (fun _ => 0))), (qa 51, .inl (cZ, 4, .inl (fun _ => 0))), (h, .inr (10, mdF qa (nI kk) x2 x3 x4 1 0 6 125 0 (nI ro) (nI (tt + 1)) 0 x21 x22 (nI nn) x24 (-1) (-1) (-1))), (qa 32, .inl (cI, 4, .inl (fun _ => 0))), (qa 34, .inl (cI, 4, .inl (fun _ => 0))), (qa 47, .inl (cI, 4, .inl (fun _ => 0))), (qa 48, .inl (cI, 4, .inl (fun _ => 0))), (qa 49, .inl (cI, 4, .inl (fun _ => 0)))] := hD
    refine lv_iinc (v := 3) (lv' := [(1, .int 3), (0, .ref h)]) hx hb dX11_oneTick_56 hl (k := 0) rfl (by decide) (by decide) rfl (fun ls hl => ?_)
    refine lv_goto (tgt := 46) hx hb dX11_oneTick_59 (by decide) ?_
    refine lv_iload_n hx hb dX11_oneTick_46 rfl (lv_at hl 0 rfl) ?_
    refine lv_iconst (v := 4) hx hb dX11_oneTick_47 (by decide) ?_
    refine lv_icmp_ge (tgt := 62) hx hb dX11_oneTick_48 (by decide) (fun c_48_4 => absurd c_48_4 (by decide)) (fun c_48_4 => ?_)
    refine lv_aload_n hx hb dX11_oneTick_51 rfl (lv_at hl 1 rfl) ?_
    refine lv_iload_n hx hb dX11_oneTick_52 rfl (lv_at hl 0 rfl) ?_
    refine g_callv (wr := [(qa 11, .inl (cI, 2048, .inl (fun _ => 0))), (qa 12, .inl (cI, 128, .inl (fun _ => 0))), (qa 25, .inl (cZ, 8192, .inl fz)), (qa 29, .inl (cI, 1300, .inl fl)), (qa 30, .inl (cI, 1300, .inl fr_)), (qa 46, .inl (cI, 4, .inl (fun _ => 0))), (qa 51, .inl (cZ, 4, .inl (fun _ => 0)))]) (va_runV (As := [.int 3]) (rest := []) ⟨hx, hb, hml, hown, hts⟩ (m_acts0 l dC dI H.size h qa (nI kk) x2 x3 x4 1 0 6 125 0 (nI ro) (nI (tt + 1)) 0 x21 x22 (nI nn) x24 (-1) (-1) (-1) cI 3 (by decide)) (cwV 1 hts (gG_V kw_852 kw_853 kw_854 kw_5 kw_855) rfl rfl rfl (by decide +kernel) ⟨Nat.le_of_ble_eq_true rfl, Nat.le_of_ble_eq_true rfl⟩) (g_preV (C := RX11) (T := TX11) (N := 53) hP hD hK hS hA hN hZ (q0 := 7) rfl rfl [7, 8, 9, 10, 11, 12] (by decide) rfl [0] rfl) rfl rfl hl.1 rfl (lv_room (Nat.le_of_ble_eq_true rfl)) dX11_oneTick_53 ⟨Nat.le_of_ble_eq_true rfl, Nat.le_of_ble_eq_true rfl⟩) hP hD hK hS hA [7, 8, 9, 10, 11, 12] [0, 1, 2, 3, 4, 5, 6] rfl rfl (by decide) (by decide) (fun w ty1 H locs hw_53 hP hD _ hS => ?_)
    have hu := hw_53
    cases hu
    have hP : va_P (dC, dI) vwCl [(qa 11, .inl (cI, 2048, .inl (fun _ => 0))), (qa 12, .inl (cI, 128, .inl (fun _ => 0))), (qa 25, .inl (cZ, 8192, .inl fz)), (qa 29, .inl (cI, 1300, .inl fl)), (qa 30, .inl (cI, 1300, .inl fr_)), (qa 46, .inl (cI, 4, .inl (fun _ => 0))), (qa 51, .inl (cZ, 4, .inl (fun _ => 0))), (h, .inr (10, mdF qa (nI kk) x2 x3 x4 1 0 6 125 0 (nI ro) (nI (tt + 1)) 0 x21 x22 (nI nn) x24 (-1) (-1) (-1))), (qa 32, .inl (cI, 4, .inl (fun _ => 0))), (qa 34, .inl (cI, 4, .inl (fun _ => 0))), (qa 47, .inl (cI, 4, .inl (fun _ => 0))), (qa 48, .inl (cI, 4, .inl (fun _ => 0))), (qa 49, .inl (cI, 4, .inl (fun _ => 0)))] H := hP
    have hD : va_D A [(qa 11, .inl (cI, 2048, .inl (fun _ => 0))), (qa 12, .inl (cI, 128, .inl (fun _ => 0))), (qa 25, .inl (cZ, 8192, .inl fz)), (qa 29, .inl (cI, 1300, .inl fl)), (qa 30, .inl (cI, 1300, .inl fr_)), (qa 46, .inl (cI, 4, .inl (fun _ => 0))), (qa 51, .inl (cZ, 4, .inl (fun _ => 0))), (h, .inr (10, mdF qa (nI kk) x2 x3 x4 1 0 6 125 0 (nI ro) (nI (tt + 1)) 0 x21 x22 (nI nn) x24 (-1) (-1) (-1))), (qa 32, .inl (cI, 4, .inl (fun _ => 0))), (qa 34, .inl (cI, 4, .inl (fun _ => 0))), (qa 47, .inl (cI, 4, .inl (fun _ => 0))), (qa 48, .inl (cI, 4, .inl (fun _ => 0))), (qa 49, .inl (cI, 4, .inl (fun _ => 0)))] := hD
    refine lv_iinc (v := 4) (lv' := [(1, .int 4), (0, .ref h)]) hx hb dX11_oneTick_56 hl (k := 0) rfl (by decide) (by decide) rfl (fun ls hl => ?_)
    refine lv_goto (tgt := 46) hx hb dX11_oneTick_59 (by decide) ?_
    refine lv_iload_n hx hb dX11_oneTick_46 rfl (lv_at hl 0 rfl) ?_
    refine lv_iconst (v := 4) hx hb dX11_oneTick_47 (by decide) ?_
    refine lv_icmp_ge (tgt := 62) hx hb dX11_oneTick_48 (by decide) (fun c_48_5 => ?_) (fun c_48_5 => absurd c_48_5 (by decide))
    refine lv_aload_n hx hb dX11_oneTick_62 rfl (lv_at hl 1 rfl) ?_
    refine g_callv (wr := [(qa 11, .inl (cI, 2048, .inl (fun _ => 0))), (qa 12, .inl (cI, 128, .inl (fun _ => 0))), (qa 25, .inl (cZ, 8192, .inl fz)), (qa 46, .inl (cI, 4, .inl (fun _ => 0))), (qa 32, .inl (cI, 4, .inl (fun _ => 0))), (qa 34, .inl (cI, 4, .inl (fun _ => 0))), (qa 47, .inl (cI, 4, .inl (fun _ => 0))), (qa 48, .inl (cI, 4, .inl (fun _ => 0))), (qa 49, .inl (cI, 4, .inl (fun _ => 0)))]) (va_runV (As := []) (rest := []) ⟨hx, hb, hml, hown, hts⟩ (m_mix0 l dC dI H.size h qa x2 x3 x4 1 0 6 0 (nI ro) (nI (tt + 1)) 0 x21 x22 (nI nn) x24 (-1) (-1) (-1) cI cZ kk fl fr_ (hkk)) (cwV 0 hts (gG_V kw_914 kw_915 kw_916 kw_5 kw_917) rfl rfl rfl (by decide +kernel) ⟨Nat.le_of_ble_eq_true rfl, Nat.le_of_ble_eq_true rfl⟩) (g_preV (C := RX11) (T := TX11) (N := 53) hP hD hK hS hA hN hZ (q0 := 7) rfl rfl [7, 3, 4, 6] (by decide) rfl [0, 1] rfl) rfl rfl hl.1 rfl (lv_room (Nat.le_of_ble_eq_true rfl)) dX11_oneTick_63 ⟨Nat.le_of_ble_eq_true rfl, Nat.le_of_ble_eq_true rfl⟩) hP hD hK hS hA [7, 3, 4, 6] [0, 1, 2, 5, 8, 9, 10, 11, 12] rfl rfl (by decide) (by decide) (fun w ty1 H locs hw_63 hP hD _ hS => ?_)
    rcases hw_63 with ⟨fr2_63, sm2_63, fl2_63, fr_2_63, hu⟩
    cases hu
    have hP : va_P (dC, dI) vwCl [(qa 11, .inl (cI, 2048, .inl (fun _ => 0))), (qa 12, .inl (cI, 128, .inl (fun _ => 0))), (qa 25, .inl (cZ, 8192, .inl fz)), (qa 46, .inl (cI, 4, .inl (fun _ => 0))), (qa 32, .inl (cI, 4, .inl (fun _ => 0))), (qa 34, .inl (cI, 4, .inl (fun _ => 0))), (qa 47, .inl (cI, 4, .inl (fun _ => 0))), (qa 48, .inl (cI, 4, .inl (fun _ => 0))), (qa 49, .inl (cI, 4, .inl (fun _ => 0))), (h, .inr (10, mdF qa (nI kk) x2 x3 x4 1 0 6 125 0 (nI ro) (nI (tt + 1)) 0 x21 sm2_63 (nI nn) fr2_63 (-1) (-1) (-1))), (qa 29, .inl (cI, 1300, .inl fl2_63)), (qa 30, .inl (cI, 1300, .inl fr_2_63)), (qa 51, .inl (cZ, 4, .inl (fun _ => 0)))] H := hP
    have hD : va_D A [(qa 11, .inl (cI, 2048, .inl (fun _ => 0))), (qa 12, .inl (cI, 128, .inl (fun _ => 0))), (qa 25, .inl (cZ, 8192, .inl fz)), (qa 46, .inl (cI, 4, .inl (fun _ => 0))), (qa 32, .inl (cI, 4, .inl (fun _ => 0))), (qa 34, .inl (cI, 4, .inl (fun _ => 0))), (qa 47, .inl (cI, 4, .inl (fun _ => 0))), (qa 48, .inl (cI, 4, .inl (fun _ => 0))), (qa 49, .inl (cI, 4, .inl (fun _ => 0))), (h, .inr (10, mdF qa (nI kk) x2 x3 x4 1 0 6 125 0 (nI ro) (nI (tt + 1)) 0 x21 sm2_63 (nI nn) fr2_63 (-1) (-1) (-1))), (qa 29, .inl (cI, 1300, .inl fl2_63)), (qa 30, .inl (cI, 1300, .inl fr_2_63)), (qa 51, .inl (cZ, 4, .inl (fun _ => 0)))] := hD
    refine lv_aload_n hx hb dX11_oneTick_66 rfl (lv_at hl 1 rfl) ?_
    refine lv_dup hx hb dX11_oneTick_67 rfl ?_
    refine va_get (D := (dC, dI)) (ci := 10) (v := .int (nI nn)) (C := RX11) (T := TX11) (N := 53) hx hb hts iwX11 hown hK hP 9 rfl rfl 23 (by decide) (hts (.fieldLink RX11 224 "ModulePlayerModel" "ticks" "I") (List.mem_cons_of_mem _ kw_227)) (fun _ h9 => h9) rfl dX11_oneTick_68 ?_
    refine lv_iconst (v := 1) hx hb dX11_oneTick_71 (by decide) ?_
    refine lv_iadd hx hb dX11_oneTick_72 ?_
    refine g_topi (y := nI (nn + 1)) (nI_1 nn) ?_
    refine va_put (D := (dC, dI)) (ci := 10) (v := .int (nI (nn + 1))) (ty := tyX11 23) (C := RX11) (T := TX11) (N := 53) hx hb hts iwX11 tyX11 tyX11_ok nmX11 hown hK hP hD hS 9 rfl rfl 23 (by decide) (hts (.fieldLink RX11 224 "ModulePlayerModel" "ticks" "I") (List.mem_cons_of_mem _ kw_227)) (fun _ h9 => h9) rfl (by decide +kernel) (rfl) (rfl) (Nat.le_of_ble_eq_true rfl) dX11_oneTick_73 (fun H locs hP hD hS => ?_)
    have hP : va_P (dC, dI) vwCl [(qa 11, .inl (cI, 2048, .inl (fun _ => 0))), (qa 12, .inl (cI, 128, .inl (fun _ => 0))), (qa 25, .inl (cZ, 8192, .inl fz)), (qa 46, .inl (cI, 4, .inl (fun _ => 0))), (qa 32, .inl (cI, 4, .inl (fun _ => 0))), (qa 34, .inl (cI, 4, .inl (fun _ => 0))), (qa 47, .inl (cI, 4, .inl (fun _ => 0))), (qa 48, .inl (cI, 4, .inl (fun _ => 0))), (qa 49, .inl (cI, 4, .inl (fun _ => 0))), (h, .inr (10, mdF qa (nI kk) x2 x3 x4 1 0 6 125 0 (nI ro) (nI (tt + 1)) 0 x21 sm2_63 (nI (nn + 1)) fr2_63 (-1) (-1) (-1))), (qa 29, .inl (cI, 1300, .inl fl2_63)), (qa 30, .inl (cI, 1300, .inl fr_2_63)), (qa 51, .inl (cZ, 4, .inl (fun _ => 0)))] H := hP
    have hD : va_D A [(qa 11, .inl (cI, 2048, .inl (fun _ => 0))), (qa 12, .inl (cI, 128, .inl (fun _ => 0))), (qa 25, .inl (cZ, 8192, .inl fz)), (qa 46, .inl (cI, 4, .inl (fun _ => 0))), (qa 32, .inl (cI, 4, .inl (fun _ => 0))), (qa 34, .inl (cI, 4, .inl (fun _ => 0))), (qa 47, .inl (cI, 4, .inl (fun _ => 0))), (qa 48, .inl (cI, 4, .inl (fun _ => 0))), (qa 49, .inl (cI, 4, .inl (fun _ => 0))), (h, .inr (10, mdF qa (nI kk) x2 x3 x4 1 0 6 125 0 (nI ro) (nI (tt + 1)) 0 x21 sm2_63 (nI (nn + 1)) fr2_63 (-1) (-1) (-1))), (qa 29, .inl (cI, 1300, .inl fl2_63)), (qa 30, .inl (cI, 1300, .inl fr_2_63)), (qa 51, .inl (cZ, 4, .inl (fun _ => 0)))] := hD
    have hP9 := hP.sub (ws' := [(h, .inr (10, mdF qa (nI kk) x2 x3 x4 1 0 6 125 0 (nI ro) (nI (tt + 1)) 0 x21 sm2_63 (nI (nn + 1)) fr2_63 (-1) (-1) (-1))), (qa 11, .inl (cI, 2048, .inl (fun _ => 0))), (qa 12, .inl (cI, 128, .inl (fun _ => 0))), (qa 25, .inl (cZ, 8192, .inl fz)), (qa 29, .inl (cI, 1300, .inl fl2_63)), (qa 30, .inl (cI, 1300, .inl fr_2_63)), (qa 32, .inl (cI, 4, .inl (fun _ => 0))), (qa 34, .inl (cI, 4, .inl (fun _ => 0))), (qa 46, .inl (cI, 4, .inl (fun _ => 0))), (qa 47, .inl (cI, 4, .inl (fun _ => 0))), (qa 48, .inl (cI, 4, .inl (fun _ => 0))), (qa 49, .inl (cI, 4, .inl (fun _ => 0))), (qa 51, .inl (cZ, 4, .inl (fun _ => 0)))]) [9, 0, 1, 2, 10, 11, 4, 5, 3, 6, 7, 8, 12] rfl
    have hD9 := hD.sub (ws' := [(h, .inr (10, mdF qa (nI kk) x2 x3 x4 1 0 6 125 0 (nI ro) (nI (tt + 1)) 0 x21 sm2_63 (nI (nn + 1)) fr2_63 (-1) (-1) (-1))), (qa 11, .inl (cI, 2048, .inl (fun _ => 0))), (qa 12, .inl (cI, 128, .inl (fun _ => 0))), (qa 25, .inl (cZ, 8192, .inl fz)), (qa 29, .inl (cI, 1300, .inl fl2_63)), (qa 30, .inl (cI, 1300, .inl fr_2_63)), (qa 32, .inl (cI, 4, .inl (fun _ => 0))), (qa 34, .inl (cI, 4, .inl (fun _ => 0))), (qa 46, .inl (cI, 4, .inl (fun _ => 0))), (qa 47, .inl (cI, 4, .inl (fun _ => 0))), (qa 48, .inl (cI, 4, .inl (fun _ => 0))), (qa 49, .inl (cI, 4, .inl (fun _ => 0))), (qa 51, .inl (cZ, 4, .inl (fun _ => 0)))]) [9, 0, 1, 2, 10, 11, 4, 5, 3, 6, 7, 8, 12] (by decide) rfl
    have hK9 := hK.sub (tys' := []) [] rfl
    exact W.vret hx hb hr (fun t ht hW => ⟨⟨([(h, .inr (10, mdF qa (nI kk) x2 x3 x4 1 0 6 125 0 (nI ro) (nI (tt + 1)) 0 x21 sm2_63 (nI (nn + 1)) fr2_63 (-1) (-1) (-1))), (qa 11, .inl (cI, 2048, .inl (fun _ => 0))), (qa 12, .inl (cI, 128, .inl (fun _ => 0))), (qa 25, .inl (cZ, 8192, .inl fz)), (qa 29, .inl (cI, 1300, .inl fl2_63)), (qa 30, .inl (cI, 1300, .inl fr_2_63)), (qa 32, .inl (cI, 4, .inl (fun _ => 0))), (qa 34, .inl (cI, 4, .inl (fun _ => 0))), (qa 46, .inl (cI, 4, .inl (fun _ => 0))), (qa 47, .inl (cI, 4, .inl (fun _ => 0))), (qa 48, .inl (cI, 4, .inl (fun _ => 0))), (qa 49, .inl (cI, 4, .inl (fun _ => 0))), (qa 51, .inl (cZ, 4, .inl (fun _ => 0)))], []), rfl, ⟨ro, (tt + 1), x21, sm2_63, fr2_63, fz, fl2_63, fr_2_63, rfl, hro, (tick_m htt c_24)⟩, by rw [ht]; exact hP9, va_K.moved hW.alike hK9, hD9⟩, hS.F ht⟩) hS.2.2 dX11_oneTick_76
  refine lv_aload_n hx hb dX11_oneTick_27 rfl (lv_at hl 0 rfl) ?_
  refine g_callv (wr := [(qa 29, .inl (cI, 1300, .inl fl)), (qa 30, .inl (cI, 1300, .inl fr_)), (qa 32, .inl (cI, 4, .inl (fun _ => 0))), (qa 34, .inl (cI, 4, .inl (fun _ => 0))), (qa 48, .inl (cI, 4, .inl (fun _ => 0))), (qa 49, .inl (cI, 4, .inl (fun _ => 0))), (qa 51, .inl (cZ, 4, .inl (fun _ => 0)))]) (va_runV (As := []) (rest := []) ⟨hx, hb, hml, hown, hts⟩ (m_beginRowB l dC dI H.size h qa (nI kk) x2 x3 x4 6 125 (nI tt) 0 x21 x22 x24 cI cZ fz ro nn (hro) (hnn) (hnn2)) (cwV 0 hts (gG_V kw_837 kw_838 kw_839 kw_5 kw_840) rfl rfl rfl (by decide +kernel) ⟨Nat.le_of_ble_eq_true rfl, Nat.le_of_ble_eq_true rfl⟩) (g_preV (C := RX11) (T := TX11) (N := 53) hP hD hK hS hA hN hZ (q0 := 0) rfl rfl [0, 1, 2, 3, 8, 9] (by decide) rfl [0, 1] rfl) rfl rfl hl.1 rfl (lv_room (Nat.le_of_ble_eq_true rfl)) dX11_oneTick_28 ⟨Nat.le_of_ble_eq_true rfl, Nat.le_of_ble_eq_true rfl⟩) hP hD hK hS hA [0, 1, 2, 3, 8, 9] [4, 5, 6, 7, 10, 11, 12] rfl rfl (by decide) (by decide) (fun w ty1 H locs hw_28 hP hD _ hS => ?_)
  rcases hw_28 with ⟨ro2_28, ag2_28, fz2_28, hu, hro2_28⟩
  cases hu
  have hP : va_P (dC, dI) vwCl [(qa 29, .inl (cI, 1300, .inl fl)), (qa 30, .inl (cI, 1300, .inl fr_)), (qa 32, .inl (cI, 4, .inl (fun _ => 0))), (qa 34, .inl (cI, 4, .inl (fun _ => 0))), (qa 48, .inl (cI, 4, .inl (fun _ => 0))), (qa 49, .inl (cI, 4, .inl (fun _ => 0))), (qa 51, .inl (cZ, 4, .inl (fun _ => 0))), (h, .inr (10, mdF qa (nI kk) x2 x3 x4 1 0 6 125 0 (nI ro2_28) 0 0 ag2_28 x22 (nI nn) x24 (-1) (-1) (-1))), (qa 11, .inl (cI, 2048, .inl (fun _ => 0))), (qa 12, .inl (cI, 128, .inl (fun _ => 0))), (qa 25, .inl (cZ, 8192, .inl fz2_28)), (qa 46, .inl (cI, 4, .inl (fun _ => 0))), (qa 47, .inl (cI, 4, .inl (fun _ => 0)))] H := hP
  have hD : va_D A [(qa 29, .inl (cI, 1300, .inl fl)), (qa 30, .inl (cI, 1300, .inl fr_)), (qa 32, .inl (cI, 4, .inl (fun _ => 0))), (qa 34, .inl (cI, 4, .inl (fun _ => 0))), (qa 48, .inl (cI, 4, .inl (fun _ => 0))), (qa 49, .inl (cI, 4, .inl (fun _ => 0))), (qa 51, .inl (cZ, 4, .inl (fun _ => 0))), (h, .inr (10, mdF qa (nI kk) x2 x3 x4 1 0 6 125 0 (nI ro2_28) 0 0 ag2_28 x22 (nI nn) x24 (-1) (-1) (-1))), (qa 11, .inl (cI, 2048, .inl (fun _ => 0))), (qa 12, .inl (cI, 128, .inl (fun _ => 0))), (qa 25, .inl (cZ, 8192, .inl fz2_28)), (qa 46, .inl (cI, 4, .inl (fun _ => 0))), (qa 47, .inl (cI, 4, .inl (fun _ => 0)))] := hD
  refine lv_goto (tgt := 44) hx hb dX11_oneTick_31 (by decide) ?_
  refine lv_iconst (v := 0) hx hb dX11_oneTick_44 (by decide) ?_
  refine lv_istore_n (lv' := [(1, .int 0), (0, .ref h)]) hx hb dX11_oneTick_45 rfl hl (by decide) rfl (fun ls hl => ?_)
  refine lv_iload_n hx hb dX11_oneTick_46 rfl (lv_at hl 0 rfl) ?_
  refine lv_iconst (v := 4) hx hb dX11_oneTick_47 (by decide) ?_
  refine lv_icmp_ge (tgt := 62) hx hb dX11_oneTick_48 (by decide) (fun c_48 => absurd c_48 (by decide)) (fun c_48 => ?_)
  refine lv_aload_n hx hb dX11_oneTick_51 rfl (lv_at hl 1 rfl) ?_
  refine lv_iload_n hx hb dX11_oneTick_52 rfl (lv_at hl 0 rfl) ?_
  refine g_callv (wr := [(qa 29, .inl (cI, 1300, .inl fl)), (qa 30, .inl (cI, 1300, .inl fr_)), (qa 51, .inl (cZ, 4, .inl (fun _ => 0))), (qa 11, .inl (cI, 2048, .inl (fun _ => 0))), (qa 12, .inl (cI, 128, .inl (fun _ => 0))), (qa 25, .inl (cZ, 8192, .inl fz2_28)), (qa 46, .inl (cI, 4, .inl (fun _ => 0)))]) (va_runV (As := [.int 0]) (rest := []) ⟨hx, hb, hml, hown, hts⟩ (m_acts0 l dC dI H.size h qa (nI kk) x2 x3 x4 1 0 6 125 0 (nI ro2_28) 0 0 ag2_28 x22 (nI nn) x24 (-1) (-1) (-1) cI 0 (by decide)) (cwV 1 hts (gG_V kw_852 kw_853 kw_854 kw_5 kw_855) rfl rfl rfl (by decide +kernel) ⟨Nat.le_of_ble_eq_true rfl, Nat.le_of_ble_eq_true rfl⟩) (g_preV (C := RX11) (T := TX11) (N := 53) hP hD hK hS hA hN hZ (q0 := 7) rfl rfl [7, 2, 3, 12, 4, 5] (by decide) rfl [0] rfl) rfl rfl hl.1 rfl (lv_room (Nat.le_of_ble_eq_true rfl)) dX11_oneTick_53 ⟨Nat.le_of_ble_eq_true rfl, Nat.le_of_ble_eq_true rfl⟩) hP hD hK hS hA [7, 2, 3, 12, 4, 5] [0, 1, 6, 8, 9, 10, 11] rfl rfl (by decide) (by decide) (fun w ty1 H locs hw_53 hP hD _ hS => ?_)
  have hu := hw_53
  cases hu
  have hP : va_P (dC, dI) vwCl [(qa 29, .inl (cI, 1300, .inl fl)), (qa 30, .inl (cI, 1300, .inl fr_)), (qa 51, .inl (cZ, 4, .inl (fun _ => 0))), (qa 11, .inl (cI, 2048, .inl (fun _ => 0))), (qa 12, .inl (cI, 128, .inl (fun _ => 0))), (qa 25, .inl (cZ, 8192, .inl fz2_28)), (qa 46, .inl (cI, 4, .inl (fun _ => 0))), (h, .inr (10, mdF qa (nI kk) x2 x3 x4 1 0 6 125 0 (nI ro2_28) 0 0 ag2_28 x22 (nI nn) x24 (-1) (-1) (-1))), (qa 32, .inl (cI, 4, .inl (fun _ => 0))), (qa 34, .inl (cI, 4, .inl (fun _ => 0))), (qa 47, .inl (cI, 4, .inl (fun _ => 0))), (qa 48, .inl (cI, 4, .inl (fun _ => 0))), (qa 49, .inl (cI, 4, .inl (fun _ => 0)))] H := hP
  have hD : va_D A [(qa 29, .inl (cI, 1300, .inl fl)), (qa 30, .inl (cI, 1300, .inl fr_)), (qa 51, .inl (cZ, 4, .inl (fun _ => 0))), (qa 11, .inl (cI, 2048, .inl (fun _ => 0))), (qa 12, .inl (cI, 128, .inl (fun _ => 0))), (qa 25, .inl (cZ, 8192, .inl fz2_28)), (qa 46, .inl (cI, 4, .inl (fun _ => 0))), (h, .inr (10, mdF qa (nI kk) x2 x3 x4 1 0 6 125 0 (nI ro2_28) 0 0 ag2_28 x22 (nI nn) x24 (-1) (-1) (-1))), (qa 32, .inl (cI, 4, .inl (fun _ => 0))), (qa 34, .inl (cI, 4, .inl (fun _ => 0))), (qa 47, .inl (cI, 4, .inl (fun _ => 0))), (qa 48, .inl (cI, 4, .inl (fun _ => 0))), (qa 49, .inl (cI, 4, .inl (fun _ => 0)))] := hD
  refine lv_iinc (v := 1) (lv' := [(1, .int 1), (0, .ref h)]) hx hb dX11_oneTick_56 hl (k := 0) rfl (by decide) (by decide) rfl (fun ls hl => ?_)
  refine lv_goto (tgt := 46) hx hb dX11_oneTick_59 (by decide) ?_
  refine lv_iload_n hx hb dX11_oneTick_46 rfl (lv_at hl 0 rfl) ?_
  refine lv_iconst (v := 4) hx hb dX11_oneTick_47 (by decide) ?_
  refine lv_icmp_ge (tgt := 62) hx hb dX11_oneTick_48 (by decide) (fun c_48_2 => absurd c_48_2 (by decide)) (fun c_48_2 => ?_)
  refine lv_aload_n hx hb dX11_oneTick_51 rfl (lv_at hl 1 rfl) ?_
  refine lv_iload_n hx hb dX11_oneTick_52 rfl (lv_at hl 0 rfl) ?_
  refine g_callv (wr := [(qa 29, .inl (cI, 1300, .inl fl)), (qa 30, .inl (cI, 1300, .inl fr_)), (qa 51, .inl (cZ, 4, .inl (fun _ => 0))), (qa 11, .inl (cI, 2048, .inl (fun _ => 0))), (qa 12, .inl (cI, 128, .inl (fun _ => 0))), (qa 25, .inl (cZ, 8192, .inl fz2_28)), (qa 46, .inl (cI, 4, .inl (fun _ => 0)))]) (va_runV (As := [.int 1]) (rest := []) ⟨hx, hb, hml, hown, hts⟩ (m_acts0 l dC dI H.size h qa (nI kk) x2 x3 x4 1 0 6 125 0 (nI ro2_28) 0 0 ag2_28 x22 (nI nn) x24 (-1) (-1) (-1) cI 1 (by decide)) (cwV 1 hts (gG_V kw_852 kw_853 kw_854 kw_5 kw_855) rfl rfl rfl (by decide +kernel) ⟨Nat.le_of_ble_eq_true rfl, Nat.le_of_ble_eq_true rfl⟩) (g_preV (C := RX11) (T := TX11) (N := 53) hP hD hK hS hA hN hZ (q0 := 7) rfl rfl [7, 8, 9, 10, 11, 12] (by decide) rfl [0] rfl) rfl rfl hl.1 rfl (lv_room (Nat.le_of_ble_eq_true rfl)) dX11_oneTick_53 ⟨Nat.le_of_ble_eq_true rfl, Nat.le_of_ble_eq_true rfl⟩) hP hD hK hS hA [7, 8, 9, 10, 11, 12] [0, 1, 2, 3, 4, 5, 6] rfl rfl (by decide) (by decide) (fun w ty1 H locs hw_53 hP hD _ hS => ?_)
  have hu := hw_53
  cases hu
  have hP : va_P (dC, dI) vwCl [(qa 29, .inl (cI, 1300, .inl fl)), (qa 30, .inl (cI, 1300, .inl fr_)), (qa 51, .inl (cZ, 4, .inl (fun _ => 0))), (qa 11, .inl (cI, 2048, .inl (fun _ => 0))), (qa 12, .inl (cI, 128, .inl (fun _ => 0))), (qa 25, .inl (cZ, 8192, .inl fz2_28)), (qa 46, .inl (cI, 4, .inl (fun _ => 0))), (h, .inr (10, mdF qa (nI kk) x2 x3 x4 1 0 6 125 0 (nI ro2_28) 0 0 ag2_28 x22 (nI nn) x24 (-1) (-1) (-1))), (qa 32, .inl (cI, 4, .inl (fun _ => 0))), (qa 34, .inl (cI, 4, .inl (fun _ => 0))), (qa 47, .inl (cI, 4, .inl (fun _ => 0))), (qa 48, .inl (cI, 4, .inl (fun _ => 0))), (qa 49, .inl (cI, 4, .inl (fun _ => 0)))] H := hP
  have hD : va_D A [(qa 29, .inl (cI, 1300, .inl fl)), (qa 30, .inl (cI, 1300, .inl fr_)), (qa 51, .inl (cZ, 4, .inl (fun _ => 0))), (qa 11, .inl (cI, 2048, .inl (fun _ => 0))), (qa 12, .inl (cI, 128, .inl (fun _ => 0))), (qa 25, .inl (cZ, 8192, .inl fz2_28)), (qa 46, .inl (cI, 4, .inl (fun _ => 0))), (h, .inr (10, mdF qa (nI kk) x2 x3 x4 1 0 6 125 0 (nI ro2_28) 0 0 ag2_28 x22 (nI nn) x24 (-1) (-1) (-1))), (qa 32, .inl (cI, 4, .inl (fun _ => 0))), (qa 34, .inl (cI, 4, .inl (fun _ => 0))), (qa 47, .inl (cI, 4, .inl (fun _ => 0))), (qa 48, .inl (cI, 4, .inl (fun _ => 0))), (qa 49, .inl (cI, 4, .inl (fun _ => 0)))] := hD
  refine lv_iinc (v := 2) (lv' := [(1, .int 2), (0, .ref h)]) hx hb dX11_oneTick_56 hl (k := 0) rfl (by decide) (by decide) rfl (fun ls hl => ?_)
  refine lv_goto (tgt := 46) hx hb dX11_oneTick_59 (by decide) ?_
  refine lv_iload_n hx hb dX11_oneTick_46 rfl (lv_at hl 0 rfl) ?_
  refine lv_iconst (v := 4) hx hb dX11_oneTick_47 (by decide) ?_
  refine lv_icmp_ge (tgt := 62) hx hb dX11_oneTick_48 (by decide) (fun c_48_3 => absurd c_48_3 (by decide)) (fun c_48_3 => ?_)
  refine lv_aload_n hx hb dX11_oneTick_51 rfl (lv_at hl 1 rfl) ?_
  refine lv_iload_n hx hb dX11_oneTick_52 rfl (lv_at hl 0 rfl) ?_
  refine g_callv (wr := [(qa 29, .inl (cI, 1300, .inl fl)), (qa 30, .inl (cI, 1300, .inl fr_)), (qa 51, .inl (cZ, 4, .inl (fun _ => 0))), (qa 11, .inl (cI, 2048, .inl (fun _ => 0))), (qa 12, .inl (cI, 128, .inl (fun _ => 0))), (qa 25, .inl (cZ, 8192, .inl fz2_28)), (qa 46, .inl (cI, 4, .inl (fun _ => 0)))]) (va_runV (As := [.int 2]) (rest := []) ⟨hx, hb, hml, hown, hts⟩ (m_acts0 l dC dI H.size h qa (nI kk) x2 x3 x4 1 0 6 125 0 (nI ro2_28) 0 0 ag2_28 x22 (nI nn) x24 (-1) (-1) (-1) cI 2 (by decide)) (cwV 1 hts (gG_V kw_852 kw_853 kw_854 kw_5 kw_855) rfl rfl rfl (by decide +kernel) ⟨Nat.le_of_ble_eq_true rfl, Nat.le_of_ble_eq_true rfl⟩) (g_preV (C := RX11) (T := TX11) (N := 53) hP hD hK hS hA hN hZ (q0 := 7) rfl rfl [7, 8, 9, 10, 11, 12] (by decide) rfl [0] rfl) rfl rfl hl.1 rfl (lv_room (Nat.le_of_ble_eq_true rfl)) dX11_oneTick_53 ⟨Nat.le_of_ble_eq_true rfl, Nat.le_of_ble_eq_true rfl⟩) hP hD hK hS hA [7, 8, 9, 10, 11, 12] [0, 1, 2, 3, 4, 5, 6] rfl rfl (by decide) (by decide) (fun w ty1 H locs hw_53 hP hD _ hS => ?_)
  have hu := hw_53
  cases hu
  have hP : va_P (dC, dI) vwCl [(qa 29, .inl (cI, 1300, .inl fl)), (qa 30, .inl (cI, 1300, .inl fr_)), (qa 51, .inl (cZ, 4, .inl (fun _ => 0))), (qa 11, .inl (cI, 2048, .inl (fun _ => 0))), (qa 12, .inl (cI, 128, .inl (fun _ => 0))), (qa 25, .inl (cZ, 8192, .inl fz2_28)), (qa 46, .inl (cI, 4, .inl (fun _ => 0))), (h, .inr (10, mdF qa (nI kk) x2 x3 x4 1 0 6 125 0 (nI ro2_28) 0 0 ag2_28 x22 (nI nn) x24 (-1) (-1) (-1))), (qa 32, .inl (cI, 4, .inl (fun _ => 0))), (qa 34, .inl (cI, 4, .inl (fun _ => 0))), (qa 47, .inl (cI, 4, .inl (fun _ => 0))), (qa 48, .inl (cI, 4, .inl (fun _ => 0))), (qa 49, .inl (cI, 4, .inl (fun _ => 0)))] H := hP
  have hD : va_D A [(qa 29, .inl (cI, 1300, .inl fl)), (qa 30, .inl (cI, 1300, .inl fr_)), (qa 51, .inl (cZ, 4, .inl (fun _ => 0))), (qa 11, .inl (cI, 2048, .inl (fun _ => 0))), (qa 12, .inl (cI, 128, .inl (fun _ => 0))), (qa 25, .inl (cZ, 8192, .inl fz2_28)), (qa 46, .inl (cI, 4, .inl (fun _ => 0))), (h, .inr (10, mdF qa (nI kk) x2 x3 x4 1 0 6 125 0 (nI ro2_28) 0 0 ag2_28 x22 (nI nn) x24 (-1) (-1) (-1))), (qa 32, .inl (cI, 4, .inl (fun _ => 0))), (qa 34, .inl (cI, 4, .inl (fun _ => 0))), (qa 47, .inl (cI, 4, .inl (fun _ => 0))), (qa 48, .inl (cI, 4, .inl (fun _ => 0))), (qa 49, .inl (cI, 4, .inl (fun _ => 0)))] := hD
  refine lv_iinc (v := 3) (lv' := [(1, .int 3), (0, .ref h)]) hx hb dX11_oneTick_56 hl (k := 0) rfl (by decide) (by decide) rfl (fun ls hl => ?_)
  refine lv_goto (tgt := 46) hx hb dX11_oneTick_59 (by decide) ?_
  refine lv_iload_n hx hb dX11_oneTick_46 rfl (lv_at hl 0 rfl) ?_
  refine lv_iconst (v := 4) hx hb dX11_oneTick_47 (by decide) ?_
  refine lv_icmp_ge (tgt := 62) hx hb dX11_oneTick_48 (by decide) (fun c_48_4 => absurd c_48_4 (by decide)) (fun c_48_4 => ?_)
  refine lv_aload_n hx hb dX11_oneTick_51 rfl (lv_at hl 1 rfl) ?_
  refine lv_iload_n hx hb dX11_oneTick_52 rfl (lv_at hl 0 rfl) ?_
  refine g_callv (wr := [(qa 29, .inl (cI, 1300, .inl fl)), (qa 30, .inl (cI, 1300, .inl fr_)), (qa 51, .inl (cZ, 4, .inl (fun _ => 0))), (qa 11, .inl (cI, 2048, .inl (fun _ => 0))), (qa 12, .inl (cI, 128, .inl (fun _ => 0))), (qa 25, .inl (cZ, 8192, .inl fz2_28)), (qa 46, .inl (cI, 4, .inl (fun _ => 0)))]) (va_runV (As := [.int 3]) (rest := []) ⟨hx, hb, hml, hown, hts⟩ (m_acts0 l dC dI H.size h qa (nI kk) x2 x3 x4 1 0 6 125 0 (nI ro2_28) 0 0 ag2_28 x22 (nI nn) x24 (-1) (-1) (-1) cI 3 (by decide)) (cwV 1 hts (gG_V kw_852 kw_853 kw_854 kw_5 kw_855) rfl rfl rfl (by decide +kernel) ⟨Nat.le_of_ble_eq_true rfl, Nat.le_of_ble_eq_true rfl⟩) (g_preV (C := RX11) (T := TX11) (N := 53) hP hD hK hS hA hN hZ (q0 := 7) rfl rfl [7, 8, 9, 10, 11, 12] (by decide) rfl [0] rfl) rfl rfl hl.1 rfl (lv_room (Nat.le_of_ble_eq_true rfl)) dX11_oneTick_53 ⟨Nat.le_of_ble_eq_true rfl, Nat.le_of_ble_eq_true rfl⟩) hP hD hK hS hA [7, 8, 9, 10, 11, 12] [0, 1, 2, 3, 4, 5, 6] rfl rfl (by decide) (by decide) (fun w ty1 H locs hw_53 hP hD _ hS => ?_)
  have hu := hw_53
  cases hu
  have hP : va_P (dC, dI) vwCl [(qa 29, .inl (cI, 1300, .inl fl)), (qa 30, .inl (cI, 1300, .inl fr_)), (qa 51, .inl (cZ, 4, .inl (fun _ => 0))), (qa 11, .inl (cI, 2048, .inl (fun _ => 0))), (qa 12, .inl (cI, 128, .inl (fun _ => 0))), (qa 25, .inl (cZ, 8192, .inl fz2_28)), (qa 46, .inl (cI, 4, .inl (fun _ => 0))), (h, .inr (10, mdF qa (nI kk) x2 x3 x4 1 0 6 125 0 (nI ro2_28) 0 0 ag2_28 x22 (nI nn) x24 (-1) (-1) (-1))), (qa 32, .inl (cI, 4, .inl (fun _ => 0))), (qa 34, .inl (cI, 4, .inl (fun _ => 0))), (qa 47, .inl (cI, 4, .inl (fun _ => 0))), (qa 48, .inl (cI, 4, .inl (fun _ => 0))), (qa 49, .inl (cI, 4, .inl (fun _ => 0)))] H := hP
  have hD : va_D A [(qa 29, .inl (cI, 1300, .inl fl)), (qa 30, .inl (cI, 1300, .inl fr_)), (qa 51, .inl (cZ, 4, .inl (fun _ => 0))), (qa 11, .inl (cI, 2048, .inl (fun _ => 0))), (qa 12, .inl (cI, 128, .inl (fun _ => 0))), (qa 25, .inl (cZ, 8192, .inl fz2_28)), (qa 46, .inl (cI, 4, .inl (fun _ => 0))), (h, .inr (10, mdF qa (nI kk) x2 x3 x4 1 0 6 125 0 (nI ro2_28) 0 0 ag2_28 x22 (nI nn) x24 (-1) (-1) (-1))), (qa 32, .inl (cI, 4, .inl (fun _ => 0))), (qa 34, .inl (cI, 4, .inl (fun _ => 0))), (qa 47, .inl (cI, 4, .inl (fun _ => 0))), (qa 48, .inl (cI, 4, .inl (fun _ => 0))), (qa 49, .inl (cI, 4, .inl (fun _ => 0)))] := hD
  refine lv_iinc (v := 4) (lv' := [(1, .int 4), (0, .ref h)]) hx hb dX11_oneTick_56 hl (k := 0) rfl (by decide) (by decide) rfl (fun ls hl => ?_)
  refine lv_goto (tgt := 46) hx hb dX11_oneTick_59 (by decide) ?_
  refine lv_iload_n hx hb dX11_oneTick_46 rfl (lv_at hl 0 rfl) ?_
  refine lv_iconst (v := 4) hx hb dX11_oneTick_47 (by decide) ?_
  refine lv_icmp_ge (tgt := 62) hx hb dX11_oneTick_48 (by decide) (fun c_48_5 => ?_) (fun c_48_5 => absurd c_48_5 (by decide))
  refine lv_aload_n hx hb dX11_oneTick_62 rfl (lv_at hl 1 rfl) ?_
  refine g_callv (wr := [(qa 11, .inl (cI, 2048, .inl (fun _ => 0))), (qa 12, .inl (cI, 128, .inl (fun _ => 0))), (qa 25, .inl (cZ, 8192, .inl fz2_28)), (qa 46, .inl (cI, 4, .inl (fun _ => 0))), (qa 32, .inl (cI, 4, .inl (fun _ => 0))), (qa 34, .inl (cI, 4, .inl (fun _ => 0))), (qa 47, .inl (cI, 4, .inl (fun _ => 0))), (qa 48, .inl (cI, 4, .inl (fun _ => 0))), (qa 49, .inl (cI, 4, .inl (fun _ => 0)))]) (va_runV (As := []) (rest := []) ⟨hx, hb, hml, hown, hts⟩ (m_mix0 l dC dI H.size h qa x2 x3 x4 1 0 6 0 (nI ro2_28) 0 0 ag2_28 x22 (nI nn) x24 (-1) (-1) (-1) cI cZ kk fl fr_ (hkk)) (cwV 0 hts (gG_V kw_914 kw_915 kw_916 kw_5 kw_917) rfl rfl rfl (by decide +kernel) ⟨Nat.le_of_ble_eq_true rfl, Nat.le_of_ble_eq_true rfl⟩) (g_preV (C := RX11) (T := TX11) (N := 53) hP hD hK hS hA hN hZ (q0 := 7) rfl rfl [7, 0, 1, 2] (by decide) rfl [0, 1] rfl) rfl rfl hl.1 rfl (lv_room (Nat.le_of_ble_eq_true rfl)) dX11_oneTick_63 ⟨Nat.le_of_ble_eq_true rfl, Nat.le_of_ble_eq_true rfl⟩) hP hD hK hS hA [7, 0, 1, 2] [3, 4, 5, 6, 8, 9, 10, 11, 12] rfl rfl (by decide) (by decide) (fun w ty1 H locs hw_63 hP hD _ hS => ?_)
  rcases hw_63 with ⟨fr2_63, sm2_63, fl2_63, fr_2_63, hu⟩
  cases hu
  have hP : va_P (dC, dI) vwCl [(qa 11, .inl (cI, 2048, .inl (fun _ => 0))), (qa 12, .inl (cI, 128, .inl (fun _ => 0))), (qa 25, .inl (cZ, 8192, .inl fz2_28)), (qa 46, .inl (cI, 4, .inl (fun _ => 0))), (qa 32, .inl (cI, 4, .inl (fun _ => 0))), (qa 34, .inl (cI, 4, .inl (fun _ => 0))), (qa 47, .inl (cI, 4, .inl (fun _ => 0))), (qa 48, .inl (cI, 4, .inl (fun _ => 0))), (qa 49, .inl (cI, 4, .inl (fun _ => 0))), (h, .inr (10, mdF qa (nI kk) x2 x3 x4 1 0 6 125 0 (nI ro2_28) 0 0 ag2_28 sm2_63 (nI nn) fr2_63 (-1) (-1) (-1))), (qa 29, .inl (cI, 1300, .inl fl2_63)), (qa 30, .inl (cI, 1300, .inl fr_2_63)), (qa 51, .inl (cZ, 4, .inl (fun _ => 0)))] H := hP
  have hD : va_D A [(qa 11, .inl (cI, 2048, .inl (fun _ => 0))), (qa 12, .inl (cI, 128, .inl (fun _ => 0))), (qa 25, .inl (cZ, 8192, .inl fz2_28)), (qa 46, .inl (cI, 4, .inl (fun _ => 0))), (qa 32, .inl (cI, 4, .inl (fun _ => 0))), (qa 34, .inl (cI, 4, .inl (fun _ => 0))), (qa 47, .inl (cI, 4, .inl (fun _ => 0))), (qa 48, .inl (cI, 4, .inl (fun _ => 0))), (qa 49, .inl (cI, 4, .inl (fun _ => 0))), (h, .inr (10, mdF qa (nI kk) x2 x3 x4 1 0 6 125 0 (nI ro2_28) 0 0 ag2_28 sm2_63 (nI nn) fr2_63 (-1) (-1) (-1))), (qa 29, .inl (cI, 1300, .inl fl2_63)), (qa 30, .inl (cI, 1300, .inl fr_2_63)), (qa 51, .inl (cZ, 4, .inl (fun _ => 0)))] := hD
  refine lv_aload_n hx hb dX11_oneTick_66 rfl (lv_at hl 1 rfl) ?_
  refine lv_dup hx hb dX11_oneTick_67 rfl ?_
  refine va_get (D := (dC, dI)) (ci := 10) (v := .int (nI nn)) (C := RX11) (T := TX11) (N := 53) hx hb hts iwX11 hown hK hP 9 rfl rfl 23 (by decide) (hts (.fieldLink RX11 224 "ModulePlayerModel" "ticks" "I") (List.mem_cons_of_mem _ kw_227)) (fun _ h9 => h9) rfl dX11_oneTick_68 ?_
  refine lv_iconst (v := 1) hx hb dX11_oneTick_71 (by decide) ?_
  refine lv_iadd hx hb dX11_oneTick_72 ?_
  refine g_topi (y := nI (nn + 1)) (nI_1 nn) ?_
  refine va_put (D := (dC, dI)) (ci := 10) (v := .int (nI (nn + 1))) (ty := tyX11 23) (C := RX11) (T := TX11) (N := 53) hx hb hts iwX11 tyX11 tyX11_ok nmX11 hown hK hP hD hS 9 rfl rfl 23 (by decide) (hts (.fieldLink RX11 224 "ModulePlayerModel" "ticks" "I") (List.mem_cons_of_mem _ kw_227)) (fun _ h9 => h9) rfl (by decide +kernel) (rfl) (rfl) (Nat.le_of_ble_eq_true rfl) dX11_oneTick_73 (fun H locs hP hD hS => ?_)
  have hP : va_P (dC, dI) vwCl [(qa 11, .inl (cI, 2048, .inl (fun _ => 0))), (qa 12, .inl (cI, 128, .inl (fun _ => 0))), (qa 25, .inl (cZ, 8192, .inl fz2_28)), (qa 46, .inl (cI, 4, .inl (fun _ => 0))), (qa 32, .inl (cI, 4, .inl (fun _ => 0))), (qa 34, .inl (cI, 4, .inl (fun _ => 0))), (qa 47, .inl (cI, 4, .inl (fun _ => 0))), (qa 48, .inl (cI, 4, .inl (fun _ => 0))), (qa 49, .inl (cI, 4, .inl (fun _ => 0))), (h, .inr (10, mdF qa (nI kk) x2 x3 x4 1 0 6 125 0 (nI ro2_28) 0 0 ag2_28 sm2_63 (nI (nn + 1)) fr2_63 (-1) (-1) (-1))), (qa 29, .inl (cI, 1300, .inl fl2_63)), (qa 30, .inl (cI, 1300, .inl fr_2_63)), (qa 51, .inl (cZ, 4, .inl (fun _ => 0)))] H := hP
  have hD : va_D A [(qa 11, .inl (cI, 2048, .inl (fun _ => 0))), (qa 12, .inl (cI, 128, .inl (fun _ => 0))), (qa 25, .inl (cZ, 8192, .inl fz2_28)), (qa 46, .inl (cI, 4, .inl (fun _ => 0))), (qa 32, .inl (cI, 4, .inl (fun _ => 0))), (qa 34, .inl (cI, 4, .inl (fun _ => 0))), (qa 47, .inl (cI, 4, .inl (fun _ => 0))), (qa 48, .inl (cI, 4, .inl (fun _ => 0))), (qa 49, .inl (cI, 4, .inl (fun _ => 0))), (h, .inr (10, mdF qa (nI kk) x2 x3 x4 1 0 6 125 0 (nI ro2_28) 0 0 ag2_28 sm2_63 (nI (nn + 1)) fr2_63 (-1) (-1) (-1))), (qa 29, .inl (cI, 1300, .inl fl2_63)), (qa 30, .inl (cI, 1300, .inl fr_2_63)), (qa 51, .inl (cZ, 4, .inl (fun _ => 0)))] := hD
  have hP9 := hP.sub (ws' := [(h, .inr (10, mdF qa (nI kk) x2 x3 x4 1 0 6 125 0 (nI ro2_28) 0 0 ag2_28 sm2_63 (nI (nn + 1)) fr2_63 (-1) (-1) (-1))), (qa 11, .inl (cI, 2048, .inl (fun _ => 0))), (qa 12, .inl (cI, 128, .inl (fun _ => 0))), (qa 25, .inl (cZ, 8192, .inl fz2_28)), (qa 29, .inl (cI, 1300, .inl fl2_63)), (qa 30, .inl (cI, 1300, .inl fr_2_63)), (qa 32, .inl (cI, 4, .inl (fun _ => 0))), (qa 34, .inl (cI, 4, .inl (fun _ => 0))), (qa 46, .inl (cI, 4, .inl (fun _ => 0))), (qa 47, .inl (cI, 4, .inl (fun _ => 0))), (qa 48, .inl (cI, 4, .inl (fun _ => 0))), (qa 49, .inl (cI, 4, .inl (fun _ => 0))), (qa 51, .inl (cZ, 4, .inl (fun _ => 0)))]) [9, 0, 1, 2, 10, 11, 4, 5, 3, 6, 7, 8, 12] rfl
  have hD9 := hD.sub (ws' := [(h, .inr (10, mdF qa (nI kk) x2 x3 x4 1 0 6 125 0 (nI ro2_28) 0 0 ag2_28 sm2_63 (nI (nn + 1)) fr2_63 (-1) (-1) (-1))), (qa 11, .inl (cI, 2048, .inl (fun _ => 0))), (qa 12, .inl (cI, 128, .inl (fun _ => 0))), (qa 25, .inl (cZ, 8192, .inl fz2_28)), (qa 29, .inl (cI, 1300, .inl fl2_63)), (qa 30, .inl (cI, 1300, .inl fr_2_63)), (qa 32, .inl (cI, 4, .inl (fun _ => 0))), (qa 34, .inl (cI, 4, .inl (fun _ => 0))), (qa 46, .inl (cI, 4, .inl (fun _ => 0))), (qa 47, .inl (cI, 4, .inl (fun _ => 0))), (qa 48, .inl (cI, 4, .inl (fun _ => 0))), (qa 49, .inl (cI, 4, .inl (fun _ => 0))), (qa 51, .inl (cZ, 4, .inl (fun _ => 0)))]) [9, 0, 1, 2, 10, 11, 4, 5, 3, 6, 7, 8, 12] (by decide) rfl
  have hK9 := hK.sub (tys' := []) [] rfl
  exact W.vret hx hb hr (fun t ht hW => ⟨⟨([(h, .inr (10, mdF qa (nI kk) x2 x3 x4 1 0 6 125 0 (nI ro2_28) 0 0 ag2_28 sm2_63 (nI (nn + 1)) fr2_63 (-1) (-1) (-1))), (qa 11, .inl (cI, 2048, .inl (fun _ => 0))), (qa 12, .inl (cI, 128, .inl (fun _ => 0))), (qa 25, .inl (cZ, 8192, .inl fz2_28)), (qa 29, .inl (cI, 1300, .inl fl2_63)), (qa 30, .inl (cI, 1300, .inl fr_2_63)), (qa 32, .inl (cI, 4, .inl (fun _ => 0))), (qa 34, .inl (cI, 4, .inl (fun _ => 0))), (qa 46, .inl (cI, 4, .inl (fun _ => 0))), (qa 47, .inl (cI, 4, .inl (fun _ => 0))), (qa 48, .inl (cI, 4, .inl (fun _ => 0))), (qa 49, .inl (cI, 4, .inl (fun _ => 0))), (qa 51, .inl (cZ, 4, .inl (fun _ => 0)))], []), rfl, ⟨ro2_28, 0, ag2_28, sm2_63, fr2_63, fz2_28, fl2_63, fr_2_63, rfl, hro2_28, (by decide)⟩, by rw [ht]; exact hP9, va_K.moved hW.alike hK9, hD9⟩, hS.F ht⟩) hS.2.2 dX11_oneTick_76

set_option maxHeartbeats 400000 in
set_option maxRecDepth 100000 in
theorem mf_play (l : Launch) (dC : Nat → ClassId) (dI : Nat → Nat → Nat) (sz : Nat) (h : Nat) (qa : Nat → Nat) (kk : Nat) (cI cZ : ClassId) (x : Int32) (fz : Nat → Int32) (hkk : kk ≤ 16000) : Met l yX11_play (wsG (.code yX11_play cX11_play 3 (some .int))) ({ frames := 4, cells := 0, slots := 0, locals := 88 }) (va_Pc [.ref h, .int x] (gP (dC, dI) [(cI, .int), (cZ, .boolean)] [(h, .inr (10, mdF qa (nI kk) 0 0 (-1) 1 0 6 125 (-1) (-1) (-1) 0 0 17 0 (-1) 0 0 0)), (qa 11, .inl (cI, 2048, .inl (fun _ => 0))), (qa 12, .inl (cI, 128, .inl (fun _ => 0))), (qa 25, .inl (cZ, 8192, .inl fz)), (qa 29, .inl (cI, 1300, .inl (fun _ => 0))), (qa 30, .inl (cI, 1300, .inl (fun _ => 0))), (qa 32, .inl (cI, 4, .inl (fun _ => 0))), (qa 34, .inl (cI, 4, .inl (fun _ => 0))), (qa 46, .inl (cI, 4, .inl (fun _ => 0))), (qa 47, .inl (cI, 4, .inl (fun _ => 0))), (qa 48, .inl (cI, 4, .inl (fun _ => 0))), (qa 49, .inl (cI, 4, .inl (fun _ => 0))), (qa 51, .inl (cZ, 4, .inl (fun _ => 0)))] sz)) (va_Qi (fun (r : Int32) (u : va_W × gT) => u = ([], []) ∧ r = playF x) (gB (dC, dI) (va_A [(h, .inr (10, mdF qa (nI kk) 0 0 (-1) 1 0 6 125 (-1) (-1) (-1) 0 0 17 0 (-1) 0 0 0)), (qa 11, .inl (cI, 2048, .inl (fun _ => 0))), (qa 12, .inl (cI, 128, .inl (fun _ => 0))), (qa 25, .inl (cZ, 8192, .inl fz)), (qa 29, .inl (cI, 1300, .inl (fun _ => 0))), (qa 30, .inl (cI, 1300, .inl (fun _ => 0))), (qa 32, .inl (cI, 4, .inl (fun _ => 0))), (qa 34, .inl (cI, 4, .inl (fun _ => 0))), (qa 46, .inl (cI, 4, .inl (fun _ => 0))), (qa 47, .inl (cI, 4, .inl (fun _ => 0))), (qa 48, .inl (cI, 4, .inl (fun _ => 0))), (qa 49, .inl (cI, 4, .inl (fun _ => 0))), (qa 51, .inl (cZ, 4, .inl (fun _ => 0)))] sz)) (va_A [(h, .inr (10, mdF qa (nI kk) 0 0 (-1) 1 0 6 125 (-1) (-1) (-1) 0 0 17 0 (-1) 0 0 0)), (qa 11, .inl (cI, 2048, .inl (fun _ => 0))), (qa 12, .inl (cI, 128, .inl (fun _ => 0))), (qa 25, .inl (cZ, 8192, .inl fz)), (qa 29, .inl (cI, 1300, .inl (fun _ => 0))), (qa 30, .inl (cI, 1300, .inl (fun _ => 0))), (qa 32, .inl (cI, 4, .inl (fun _ => 0))), (qa 34, .inl (cI, 4, .inl (fun _ => 0))), (qa 46, .inl (cI, 4, .inl (fun _ => 0))), (qa 47, .inl (cI, 4, .inl (fun _ => 0))), (qa 48, .inl (cI, 4, .inl (fun _ => 0))), (qa 49, .inl (cI, 4, .inl (fun _ => 0))), (qa 51, .inl (cZ, 4, .inl (fun _ => 0)))] sz)) 0 0 (va_A [(h, .inr (10, mdF qa (nI kk) 0 0 (-1) 1 0 6 125 (-1) (-1) (-1) 0 0 17 0 (-1) 0 0 0)), (qa 11, .inl (cI, 2048, .inl (fun _ => 0))), (qa 12, .inl (cI, 128, .inl (fun _ => 0))), (qa 25, .inl (cZ, 8192, .inl fz)), (qa 29, .inl (cI, 1300, .inl (fun _ => 0))), (qa 30, .inl (cI, 1300, .inl (fun _ => 0))), (qa 32, .inl (cI, 4, .inl (fun _ => 0))), (qa 34, .inl (cI, 4, .inl (fun _ => 0))), (qa 46, .inl (cI, 4, .inl (fun _ => 0))), (qa 47, .inl (cI, 4, .inl (fun _ => 0))), (qa 48, .inl (cI, 4, .inl (fun _ => 0))), (qa 49, .inl (cI, 4, .inl (fun _ => 0))), (qa 51, .inl (cZ, 4, .inl (fun _ => 0)))] sz) := by
  refine Met.ofW (cc := cX11_play) (maxL := 3) (ret := (some .int)) (by decide) rfl ?_
  intro p e s m args below meth c s₁ B hml hv
  obtain ⟨rfl, hsz, hP, hK, hD0, hN, hZ⟩ := hv
  have hx := B.exec
  have hb := B.bytes
  have hr := B.returns
  have hts := atoms_spec (ws := (wsG (.code yX11_play cX11_play 3 (some .int)))) B.pre
  have hown : s.vm.findClass RX11 = some m.cls := findClass_of_methodNamed B.named
  have hlocks := B.notSynchronized
  subst hsz
  have hD := hD0.self (sz := s.heap.size)
  generalize hAe : va_A [(h, .inr (10, mdF qa (nI kk) 0 0 (-1) 1 0 6 125 (-1) (-1) (-1) 0 0 17 0 (-1) 0 0 0)), (qa 11, .inl (cI, 2048, .inl (fun _ => 0))), (qa 12, .inl (cI, 128, .inl (fun _ => 0))), (qa 25, .inl (cZ, 8192, .inl fz)), (qa 29, .inl (cI, 1300, .inl (fun _ => 0))), (qa 30, .inl (cI, 1300, .inl (fun _ => 0))), (qa 32, .inl (cI, 4, .inl (fun _ => 0))), (qa 34, .inl (cI, 4, .inl (fun _ => 0))), (qa 46, .inl (cI, 4, .inl (fun _ => 0))), (qa 47, .inl (cI, 4, .inl (fun _ => 0))), (qa 48, .inl (cI, 4, .inl (fun _ => 0))), (qa 49, .inl (cI, 4, .inl (fun _ => 0))), (qa 51, .inl (cZ, 4, .inl (fun _ => 0)))] s.heap.size = A at hD hZ ⊢
  have hA : ∀ q : Nat, s.heap.size ≤ q → A q := fun q h => by rw [← hAe]; exact Or.inr h
  have hl := lv_entry ([.ref h, .int x]) (n := 3) (Nat.le_of_ble_eq_true rfl)
  rw [lg_entry_eq]
  generalize (lg_sl ([.ref h, .int x]) ++ List.replicate (3 - (lg_sl ([.ref h, .int x])).length) Slot.unset).toArray = ls at hl ⊢
  have hl : lv_has ls 3 [(0, .ref h), (1, .int x)] := hl
  refine g_start (A := A) hP (fun H locs hP hS => ?_)
  refine lv_iload_n hx hb dX11_play_0 rfl (lv_at hl 1 rfl) ?_
  refine lv_iconst (v := 0) hx hb dX11_play_1 (by decide) ?_
  refine lv_sipush (v := 400) hx hb dX11_play_2 (by decide) ?_
  refine g_calli (wr := [(h, .inr (10, mdF qa (nI kk) 0 0 (-1) 1 0 6 125 (-1) (-1) (-1) 0 0 17 0 (-1) 0 0 0)), (qa 11, .inl (cI, 2048, .inl (fun _ => 0))), (qa 12, .inl (cI, 128, .inl (fun _ => 0))), (qa 25, .inl (cZ, 8192, .inl fz)), (qa 29, .inl (cI, 1300, .inl (fun _ => 0))), (qa 30, .inl (cI, 1300, .inl (fun _ => 0))), (qa 32, .inl (cI, 4, .inl (fun _ => 0))), (qa 34, .inl (cI, 4, .inl (fun _ => 0))), (qa 46, .inl (cI, 4, .inl (fun _ => 0))), (qa 47, .inl (cI, 4, .inl (fun _ => 0))), (qa 48, .inl (cI, 4, .inl (fun _ => 0))), (qa 49, .inl (cI, 4, .inl (fun _ => 0))), (qa 51, .inl (cZ, 4, .inl (fun _ => 0)))]) (va_runS (As := [.int x, .int 0, .int 400]) (rest := []) ⟨hx, hb, hml, hown, hts⟩ (m_in l dC dI H.size x 0 400 ) (va_cwS 3 hts (gG_S kw_266 kw_267 kw_5 kw_268) rfl rfl rfl (by decide +kernel) ⟨Nat.le_of_ble_eq_true rfl, Nat.le_of_ble_eq_true rfl⟩) (g_preS hP hD hK hS hA hN hZ [] (by decide) rfl [] rfl) rfl rfl hl.1 rfl (lv_room (Nat.le_of_ble_eq_true rfl)) dX11_play_5 ⟨Nat.le_of_ble_eq_true rfl, Nat.le_of_ble_eq_true rfl⟩) hP hD hK hS hA [] [0, 1, 2, 3, 4, 5, 6, 7, 8, 9, 10, 11, 12] rfl rfl (by decide) (by decide) (fun r_5 w ty1 H locs hw_5 hP hD _ hS => ?_)
  rcases hw_5 with ⟨hu, hr_5, hh_5⟩ | ⟨hu, hr_5, hh_5⟩
  · cases hu
    have hP : va_P (dC, dI) vwCl [(h, .inr (10, mdF qa (nI kk) 0 0 (-1) 1 0 6 125 (-1) (-1) (-1) 0 0 17 0 (-1) 0 0 0)), (qa 11, .inl (cI, 2048, .inl (fun _ => 0))), (qa 12, .inl (cI, 128, .inl (fun _ => 0))), (qa 25, .inl (cZ, 8192, .inl fz)), (qa 29, .inl (cI, 1300, .inl (fun _ => 0))), (qa 30, .inl (cI, 1300, .inl (fun _ => 0))), (qa 32, .inl (cI, 4, .inl (fun _ => 0))), (qa 34, .inl (cI, 4, .inl (fun _ => 0))), (qa 46, .inl (cI, 4, .inl (fun _ => 0))), (qa 47, .inl (cI, 4, .inl (fun _ => 0))), (qa 48, .inl (cI, 4, .inl (fun _ => 0))), (qa 49, .inl (cI, 4, .inl (fun _ => 0))), (qa 51, .inl (cZ, 4, .inl (fun _ => 0)))] H := hP
    have hD : va_D A [(h, .inr (10, mdF qa (nI kk) 0 0 (-1) 1 0 6 125 (-1) (-1) (-1) 0 0 17 0 (-1) 0 0 0)), (qa 11, .inl (cI, 2048, .inl (fun _ => 0))), (qa 12, .inl (cI, 128, .inl (fun _ => 0))), (qa 25, .inl (cZ, 8192, .inl fz)), (qa 29, .inl (cI, 1300, .inl (fun _ => 0))), (qa 30, .inl (cI, 1300, .inl (fun _ => 0))), (qa 32, .inl (cI, 4, .inl (fun _ => 0))), (qa 34, .inl (cI, 4, .inl (fun _ => 0))), (qa 46, .inl (cI, 4, .inl (fun _ => 0))), (qa 47, .inl (cI, 4, .inl (fun _ => 0))), (qa 48, .inl (cI, 4, .inl (fun _ => 0))), (qa 49, .inl (cI, 4, .inl (fun _ => 0))), (qa 51, .inl (cZ, 4, .inl (fun _ => 0)))] := hD
    refine g_topi (y := 1) hr_5 ?_
    refine lv_if_ne (tgt := 13) hx hb dX11_play_8 (by decide) (fun c_8 => ?_) (fun c_8 => absurd c_8 (by decide))
    obtain ⟨pp, hpp, hpl⟩ := play_n (i_nlt.mpr hh_5.1) hh_5.2
    refine lv_iconst (v := 0) hx hb dX11_play_13 (by decide) ?_
    refine lv_istore_n (lv' := [(2, .int 0), (0, .ref h), (1, .int x)]) hx hb dX11_play_14 rfl hl (by decide) rfl (fun ls hl => ?_)
    refine lv_iload_n hx hb dX11_play_15 rfl (lv_at hl 0 rfl) ?_
    refine lv_iload_n hx hb dX11_play_16 rfl (lv_at hl 2 rfl) ?_
    refine lv_icmp_ge (tgt := 30) hx hb dX11_play_17 (by decide) (fun c_17 => ?_) (fun c_17 => ?_)
    · refine lv_aload_n hx hb dX11_play_30 rfl (lv_at hl 1 rfl) ?_
      refine va_get (D := (dC, dI)) (ci := 10) (v := .int 0) (C := RX11) (T := TX11) (N := 53) hx hb hts iwX11 hown hK hP 0 rfl rfl 23 (by decide) (hts (.fieldLink RX11 224 "ModulePlayerModel" "ticks" "I") (List.mem_cons_of_mem _ kw_227)) (fun _ h9 => h9) rfl dX11_play_31 ?_
      have hP9 := hP.sub (ws' := []) [] rfl
      have hD9 := hD.sub (ws' := []) [] (by decide) rfl
      have hK9 := hK.sub (tys' := []) [] rfl
      exact W.iret (v := 0) hx hb hr (fun t ht hW => ⟨⟨0, ([], []), rfl, ⟨rfl, play_0 hh_5 c_17⟩, by rw [ht]; exact hP9, va_K.moved hW.alike hK9, hD9⟩, hS.F ht⟩) hS.2.2 dX11_play_34
    refine lv_aload_n hx hb dX11_play_20 rfl (lv_at hl 1 rfl) ?_
    refine g_callv (wr := []) (va_runV (As := []) (rest := []) ⟨hx, hb, hml, hown, hts⟩ (m_oneTickA l dC dI H.size h qa 0 0 (-1) (-1) (-1) (-1) 0 0 17 (-1) 0 0 0 cI cZ kk fz (fun _ => 0) (fun _ => 0) (hkk)) (cwV 0 hts (gG_V kw_833 kw_834 kw_835 kw_5 kw_836) rfl rfl rfl (by decide +kernel) ⟨Nat.le_of_ble_eq_true rfl, Nat.le_of_ble_eq_true rfl⟩) (g_preV (C := RX11) (T := TX11) (N := 53) hP hD hK hS hA hN hZ (q0 := 0) rfl rfl [0, 1, 2, 3, 4, 5, 6, 7, 8, 9, 10, 11, 12] (by decide) rfl [0, 1] rfl) rfl rfl hl.1 rfl (lv_room (Nat.le_of_ble_eq_true rfl)) dX11_play_21 ⟨Nat.le_of_ble_eq_true rfl, Nat.le_of_ble_eq_true rfl⟩) hP hD hK hS hA [0, 1, 2, 3, 4, 5, 6, 7, 8, 9, 10, 11, 12] [] rfl rfl (by decide) (by decide) (fun w ty1 H locs hw_21 hP hD _ hS => ?_)
    rcases hw_21 with ⟨ro2_21, tt2_21, ag2_21, sm2_21, fr2_21, fz2_21, fl2_21, fr_2_21, hu, hro2_21, htt2_21⟩
    cases hu
    have hP : va_P (dC, dI) vwCl [(h, .inr (10, mdF qa (nI kk) 0 0 (-1) 1 0 6 125 0 (nI ro2_21) (nI tt2_21) 0 ag2_21 sm2_21 1 fr2_21 (-1) (-1) (-1))), (qa 11, .inl (cI, 2048, .inl (fun _ => 0))), (qa 12, .inl (cI, 128, .inl (fun _ => 0))), (qa 25, .inl (cZ, 8192, .inl fz2_21)), (qa 29, .inl (cI, 1300, .inl fl2_21)), (qa 30, .inl (cI, 1300, .inl fr_2_21)), (qa 32, .inl (cI, 4, .inl (fun _ => 0))), (qa 34, .inl (cI, 4, .inl (fun _ => 0))), (qa 46, .inl (cI, 4, .inl (fun _ => 0))), (qa 47, .inl (cI, 4, .inl (fun _ => 0))), (qa 48, .inl (cI, 4, .inl (fun _ => 0))), (qa 49, .inl (cI, 4, .inl (fun _ => 0))), (qa 51, .inl (cZ, 4, .inl (fun _ => 0)))] H := hP
    have hD : va_D A [(h, .inr (10, mdF qa (nI kk) 0 0 (-1) 1 0 6 125 0 (nI ro2_21) (nI tt2_21) 0 ag2_21 sm2_21 1 fr2_21 (-1) (-1) (-1))), (qa 11, .inl (cI, 2048, .inl (fun _ => 0))), (qa 12, .inl (cI, 128, .inl (fun _ => 0))), (qa 25, .inl (cZ, 8192, .inl fz2_21)), (qa 29, .inl (cI, 1300, .inl fl2_21)), (qa 30, .inl (cI, 1300, .inl fr_2_21)), (qa 32, .inl (cI, 4, .inl (fun _ => 0))), (qa 34, .inl (cI, 4, .inl (fun _ => 0))), (qa 46, .inl (cI, 4, .inl (fun _ => 0))), (qa 47, .inl (cI, 4, .inl (fun _ => 0))), (qa 48, .inl (cI, 4, .inl (fun _ => 0))), (qa 49, .inl (cI, 4, .inl (fun _ => 0))), (qa 51, .inl (cZ, 4, .inl (fun _ => 0)))] := hD
    refine lv_iinc (v := 1) (lv' := [(2, .int 1), (0, .ref h), (1, .int x)]) hx hb dX11_play_24 hl (k := 0) rfl (by decide) (by decide) rfl (fun ls hl => ?_)
    refine lv_goto (tgt := 15) hx hb dX11_play_27 (by decide) ?_
    have LP15 : ∀ (fu15 : Nat) (ii ro tt : Nat) (ag sm fr : Int32) (fz1 fl1 fr1 : Nat → Int32) (hi1 : 1 ≤ ii) (hii : ii ≤ pp) (hro : ro < 64) (htt : tt < 6) (hm15 : pp - ii < fu15) (H : Heap) (locs : List Loc), va_P (dC, dI) vwCl [(h, .inr (10, mdF qa (nI kk) 0 0 (-1) 1 0 6 125 0 (nI ro) (nI tt) 0 ag sm (nI ii) fr (-1) (-1) (-1))), (qa 11, .inl (cI, 2048, .inl (fun _ => 0))), (qa 12, .inl (cI, 128, .inl (fun _ => 0))), (qa 25, .inl (cZ, 8192, .inl fz1)), (qa 29, .inl (cI, 1300, .inl fl1)), (qa 30, .inl (cI, 1300, .inl fr1)), (qa 32, .inl (cI, 4, .inl (fun _ => 0))), (qa 34, .inl (cI, 4, .inl (fun _ => 0))), (qa 46, .inl (cI, 4, .inl (fun _ => 0))), (qa 47, .inl (cI, 4, .inl (fun _ => 0))), (qa 48, .inl (cI, 4, .inl (fun _ => 0))), (qa 49, .inl (cI, 4, .inl (fun _ => 0))), (qa 51, .inl (cZ, 4, .inl (fun _ => 0)))] H → va_D A [(h, .inr (10, mdF qa (nI kk) 0 0 (-1) 1 0 6 125 0 (nI ro) (nI tt) 0 ag sm (nI ii) fr (-1) (-1) (-1))), (qa 11, .inl (cI, 2048, .inl (fun _ => 0))), (qa 12, .inl (cI, 128, .inl (fun _ => 0))), (qa 25, .inl (cZ, 8192, .inl fz1)), (qa 29, .inl (cI, 1300, .inl fl1)), (qa 30, .inl (cI, 1300, .inl fr1)), (qa 32, .inl (cI, 4, .inl (fun _ => 0))), (qa 34, .inl (cI, 4, .inl (fun _ => 0))), (qa 46, .inl (cI, 4, .inl (fun _ => 0))), (qa 47, .inl (cI, 4, .inl (fun _ => 0))), (qa 48, .inl (cI, 4, .inl (fun _ => 0))), (qa 49, .inl (cI, 4, .inl (fun _ => 0))), (qa 51, .inl (cZ, 4, .inl (fun _ => 0)))] → va_S A s.heap H locs → ∀ ls : Array Slot, lv_has ls 3 [(2, .int (nI ii)), (0, .ref h), (1, .int x)] → W p l e ({ frames := 4, cells := 0, slots := 0, locals := 88 }) s m ([.ref h, .int x] : List Value).toArray below meth c H locs (0) (0) (MQ below (va_Qi (fun (r : Int32) (u : va_W × gT) => u = ([], []) ∧ r = playF x) (gB (dC, dI) A) A) ([.ref h, .int x] : List Value).toArray s 0 0 A) (F0 m 15 ls []) := by
      intro fu15
      induction fu15 with
      | zero => intro ii ro tt ag sm fr fz1 fl1 fr1 hi1 hii hro htt hm15; exact absurd hm15 (Nat.not_lt_zero _)
      | succ fu15 ih15 =>
        intro ii ro tt ag sm fr fz1 fl1 fr1 hi1 hii hro htt hm15 H locs hP hD hS ls hl
        refine lv_iload_n hx hb dX11_play_15 rfl (lv_at hl 0 rfl) ?_
        refine lv_iload_n hx hb dX11_play_16 rfl (lv_at hl 2 rfl) ?_
        refine lv_icmp_ge (tgt := 30) hx hb dX11_play_17 (by decide) (fun c_17_2 => ?_) (fun c_17_2 => ?_)
        · refine lv_aload_n hx hb dX11_play_30 rfl (lv_at hl 1 rfl) ?_
          refine va_get (D := (dC, dI)) (ci := 10) (v := .int (nI ii)) (C := RX11) (T := TX11) (N := 53) hx hb hts iwX11 hown hK hP 0 rfl rfl 23 (by decide) (hts (.fieldLink RX11 224 "ModulePlayerModel" "ticks" "I") (List.mem_cons_of_mem _ kw_227)) (fun _ h9 => h9) rfl dX11_play_31 ?_
          have hP9 := hP.sub (ws' := []) [] rfl
          have hD9 := hD.sub (ws' := []) [] (by decide) rfl
          have hK9 := hK.sub (tys' := []) [] rfl
          exact W.iret (v := nI ii) hx hb hr (fun t ht hW => ⟨⟨nI ii, ([], []), rfl, ⟨rfl, play_e hpp hpl (by have := nI_le' (hpl ▸ c_17_2) (by omega) (by omega); omega)⟩, by rw [ht]; exact hP9, va_K.moved hW.alike hK9, hD9⟩, hS.F ht⟩) hS.2.2 dX11_play_34
        refine lv_aload_n hx hb dX11_play_20 rfl (lv_at hl 1 rfl) ?_
        refine g_callv (wr := []) (va_runV (As := []) (rest := []) ⟨hx, hb, hml, hown, hts⟩ (m_oneTickB l dC dI H.size h qa 0 0 (-1) ag sm fr cI cZ kk ro tt ii fz1 fl1 fr1 (hkk) (hro) (htt) (by omega) (by omega)) (cwV 0 hts (gG_V kw_833 kw_834 kw_835 kw_5 kw_836) rfl rfl rfl (by decide +kernel) ⟨Nat.le_of_ble_eq_true rfl, Nat.le_of_ble_eq_true rfl⟩) (g_preV (C := RX11) (T := TX11) (N := 53) hP hD hK hS hA hN hZ (q0 := 0) rfl rfl [0, 1, 2, 3, 4, 5, 6, 7, 8, 9, 10, 11, 12] (by decide) rfl [0, 1] rfl) rfl rfl hl.1 rfl (lv_room (Nat.le_of_ble_eq_true rfl)) dX11_play_21 ⟨Nat.le_of_ble_eq_true rfl, Nat.le_of_ble_eq_true rfl⟩) hP hD hK hS hA [0, 1, 2, 3, 4, 5, 6, 7, 8, 9, 10, 11, 12] [] rfl rfl (by decide) (by decide) (fun w ty1 H locs hw_21 hP hD _ hS => ?_)
        rcases hw_21 with ⟨ro2_21_2, tt2_21_2, ag2_21_2, sm2_21_2, fr2_21_2, fz2_21_2, fl2_21_2, fr_2_21_2, hu, hro2_21_2, htt2_21_2⟩
        cases hu
        have hP : va_P (dC, dI) vwCl [(h, .inr (10, mdF qa (nI kk) 0 0 (-1) 1 0 6 125 0 (nI ro2_21_2) (nI tt2_21_2) 0 ag2_21_2 sm2_21_2 (nI (ii + 1)) fr2_21_2 (-1) (-1) (-1))), (qa 11, .inl (cI, 2048, .inl (fun _ => 0))), (qa 12, .inl (cI, 128, .inl (fun _ => 0))), (qa 25, .inl (cZ, 8192, .inl fz2_21_2)), (qa 29, .inl (cI, 1300, .inl fl2_21_2)), (qa 30, .inl (cI, 1300, .inl fr_2_21_2)), (qa 32, .inl (cI, 4, .inl (fun _ => 0))), (qa 34, .inl (cI, 4, .inl (fun _ => 0))), (qa 46, .inl (cI, 4, .inl (fun _ => 0))), (qa 47, .inl (cI, 4, .inl (fun _ => 0))), (qa 48, .inl (cI, 4, .inl (fun _ => 0))), (qa 49, .inl (cI, 4, .inl (fun _ => 0))), (qa 51, .inl (cZ, 4, .inl (fun _ => 0)))] H := hP
        have hD : va_D A [(h, .inr (10, mdF qa (nI kk) 0 0 (-1) 1 0 6 125 0 (nI ro2_21_2) (nI tt2_21_2) 0 ag2_21_2 sm2_21_2 (nI (ii + 1)) fr2_21_2 (-1) (-1) (-1))), (qa 11, .inl (cI, 2048, .inl (fun _ => 0))), (qa 12, .inl (cI, 128, .inl (fun _ => 0))), (qa 25, .inl (cZ, 8192, .inl fz2_21_2)), (qa 29, .inl (cI, 1300, .inl fl2_21_2)), (qa 30, .inl (cI, 1300, .inl fr_2_21_2)), (qa 32, .inl (cI, 4, .inl (fun _ => 0))), (qa 34, .inl (cI, 4, .inl (fun _ => 0))), (qa 46, .inl (cI, 4, .inl (fun _ => 0))), (qa 47, .inl (cI, 4, .inl (fun _ => 0))), (qa 48, .inl (cI, 4, .inl (fun _ => 0))), (qa 49, .inl (cI, 4, .inl (fun _ => 0))), (qa 51, .inl (cZ, 4, .inl (fun _ => 0)))] := hD
        refine lv_iinc (v := nI (ii + 1)) (lv' := [(2, .int (nI (ii + 1))), (0, .ref h), (1, .int x)]) hx hb dX11_play_24 hl (k := 0) rfl (nI_1 ii) (by decide) rfl (fun ls hl => ?_)
        refine lv_goto (tgt := 15) hx hb dX11_play_27 (by decide) ?_
        exact ih15 (ii + 1) ro2_21_2 tt2_21_2 ag2_21_2 sm2_21_2 fr2_21_2 fz2_21_2 fl2_21_2 fr_2_21_2 (by omega) (by have := nI_nle' (hpl ▸ c_17_2) (by omega); omega) (hro2_21_2) (htt2_21_2) (by have := nI_nle' (hpl ▸ c_17_2) (by omega); omega) _ _ (hP.sub [0, 1, 2, 3, 4, 5, 6, 7, 8, 9, 10, 11, 12] rfl) (hD.sub [0, 1, 2, 3, 4, 5, 6, 7, 8, 9, 10, 11, 12] (by decide) rfl) hS _ (lv_sub hl [0, 1, 2] rfl)
    exact LP15 _ 1 ro2_21 tt2_21 ag2_21 sm2_21 fr2_21 fz2_21 fl2_21 fr_2_21 (by decide) (one_le (hpl ▸ c_17)) (hro2_21) (htt2_21) (Nat.lt_succ_self _) _ _ (hP.sub [0, 1, 2, 3, 4, 5, 6, 7, 8, 9, 10, 11, 12] rfl) (hD.sub [0, 1, 2, 3, 4, 5, 6, 7, 8, 9, 10, 11, 12] (by decide) rfl) hS _ (lv_sub hl [0, 1, 2] rfl)
  cases hu
  have hP : va_P (dC, dI) vwCl [(h, .inr (10, mdF qa (nI kk) 0 0 (-1) 1 0 6 125 (-1) (-1) (-1) 0 0 17 0 (-1) 0 0 0)), (qa 11, .inl (cI, 2048, .inl (fun _ => 0))), (qa 12, .inl (cI, 128, .inl (fun _ => 0))), (qa 25, .inl (cZ, 8192, .inl fz)), (qa 29, .inl (cI, 1300, .inl (fun _ => 0))), (qa 30, .inl (cI, 1300, .inl (fun _ => 0))), (qa 32, .inl (cI, 4, .inl (fun _ => 0))), (qa 34, .inl (cI, 4, .inl (fun _ => 0))), (qa 46, .inl (cI, 4, .inl (fun _ => 0))), (qa 47, .inl (cI, 4, .inl (fun _ => 0))), (qa 48, .inl (cI, 4, .inl (fun _ => 0))), (qa 49, .inl (cI, 4, .inl (fun _ => 0))), (qa 51, .inl (cZ, 4, .inl (fun _ => 0)))] H := hP
  have hD : va_D A [(h, .inr (10, mdF qa (nI kk) 0 0 (-1) 1 0 6 125 (-1) (-1) (-1) 0 0 17 0 (-1) 0 0 0)), (qa 11, .inl (cI, 2048, .inl (fun _ => 0))), (qa 12, .inl (cI, 128, .inl (fun _ => 0))), (qa 25, .inl (cZ, 8192, .inl fz)), (qa 29, .inl (cI, 1300, .inl (fun _ => 0))), (qa 30, .inl (cI, 1300, .inl (fun _ => 0))), (qa 32, .inl (cI, 4, .inl (fun _ => 0))), (qa 34, .inl (cI, 4, .inl (fun _ => 0))), (qa 46, .inl (cI, 4, .inl (fun _ => 0))), (qa 47, .inl (cI, 4, .inl (fun _ => 0))), (qa 48, .inl (cI, 4, .inl (fun _ => 0))), (qa 49, .inl (cI, 4, .inl (fun _ => 0))), (qa 51, .inl (cZ, 4, .inl (fun _ => 0)))] := hD
  refine g_topi (y := 0) hr_5 ?_
  refine lv_if_ne (tgt := 13) hx hb dX11_play_8 (by decide) (fun c_8 => absurd c_8 (by decide)) (fun c_8 => ?_)
  refine lv_iconst (v := (-1)) hx hb dX11_play_11 (by decide) ?_
  have hP9 := hP.sub (ws' := []) [] rfl
  have hD9 := hD.sub (ws' := []) [] (by decide) rfl
  have hK9 := hK.sub (tys' := []) [] rfl
  exact W.iret (v := (-1)) hx hb hr (fun t ht hW => ⟨⟨(-1), ([], []), rfl, ⟨rfl, (if_neg hh_5).symm⟩, by rw [ht]; exact hP9, va_K.moved hW.alike hK9, hD9⟩, hS.F ht⟩) hS.2.2 dX11_play_12
