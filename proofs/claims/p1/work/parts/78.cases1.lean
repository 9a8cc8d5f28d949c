set_option maxHeartbeats 1000000 in
set_option maxRecDepth 100000 in
theorem lawc_800 {p : Program} {l : Launch} {e : Env} {s : State} {m : MethodId} {below : List Frame} {meth : Method} {c : Code} {b : Nat} {xs : Nat → Int32} {A : Nat → Prop} {dC : Nat → ClassId} {dI : Nat → Nat → Nat} {aT_9 : Nat} {aB_9 : Nat} {aS_9 : Nat} {aR_9 : Nat} {aF_9 : Nat} {aX_9 : Nat} {aC_9 : Nat} {cB_9 : ClassId} {cS_9 : ClassId} {cI_9 : ClassId} {cJ_9 : ClassId} {cC_9 : ClassId} {cZ_22 : ClassId} {q_0 : Nat} {q_13 : Nat} {H : Heap} {locs : List Loc} {ls : Array Slot} (hx : p.tables.exec = Jvm.exec) (hb : c.code = code) (hr : meth.sig.returnType = ret) (hlocks : meth.locks = false) (hml : c.maxLocals = 4) (hown : s.vm.findClass RL = some m.cls) (hts : ∀ w ∈ wsG (Cond.initialized RX10), w.before #[Value.ref b] s = true) (hA : ∀ q : Nat, s.heap.size ≤ q → A q) (hAI : ∀ q : Nat, A q → s.heap.size ≤ q) (hbA : ¬ A b) (hN : gN s) (hZ : gZ A s s.heap) (hX : va_X b 7 xs s s.heap) (hbl : b < s.heap.size) (hK : va_K (dC, dI) vwCl [(cB_9, .byte), (cS_9, .object RX5), (cI_9, .int), (cJ_9, .long), (cC_9, .object RX1), (cZ_22, .boolean)] s) (hP : va_P (dC, dI) vwCl [(q_0, .inr (9, [.ref aT_9, .ref aB_9, .ref aS_9, .ref aR_9, .ref aF_9, .ref aC_9, .ref aX_9]))] H) (hD : va_D A [(q_0, .inr (9, [.ref aT_9, .ref aB_9, .ref aS_9, .ref aR_9, .ref aF_9, .ref aC_9, .ref aX_9]))]) (hS : va_S A s.heap H locs) (hl : lv_has ls 4 [(3, .int 1), (2, .ref q_13), (1, .ref q_0), (0, .ref b)]) : W p l e room_1 s m #[Value.ref b] below meth c H locs 95 104445 (lw_Z below #[Value.ref b] s) (F0 m 800 ls []) := by
  refine lv_iinc (v := 7) (lv' := [(3, .int 7), (2, .ref q_13), (1, .ref q_0), (0, .ref b)]) hx hb dL_law_800 hl (k := 0) rfl (by decide) (by decide) rfl (fun ls hl => ?_)
  refine lv_goto (tgt := 28) hx hb dL_law_803 (by decide) ?_
  refine lv_iload_n hx hb dL_law_28 rfl (lv_at hl 0 rfl) ?_
  refine lv_aload_n hx hb dL_law_29 rfl (lv_at hl 3 rfl) ?_
  refine va_slen hx hb hX hbl hbA hS dL_law_30 ?_
  refine g_topi (y := 7) rfl ?_
  refine lv_bipush (v := 6) hx hb dL_law_31 (by decide) ?_
  refine lv_isub hx hb dL_law_33 ?_
  refine g_topi (y := 1) (by decide) ?_
  refine lv_icmp_gt (tgt := 806) hx hb dL_law_34 (by decide) (fun c_34_2 => ?_) (fun c_34_2 => absurd c_34_2 (by decide))
  refine lv_iconst (v := 1) hx hb dL_law_806 (by decide) ?_
  refine va_forget (fun q hq => hAI _ (hS.2.2 q hq)) ?_
  refine W.widen (k := 600000) (n := 7302250) (Nat.le_of_ble_eq_true rfl) (Nat.le_of_ble_eq_true rfl) ?_
  exact lw_ret hx hb hr hlocks dL_law_807

set_option maxHeartbeats 1000000 in
set_option maxRecDepth 100000 in
theorem lawc_136 {p : Program} {l : Launch} {e : Env} {s : State} {m : MethodId} {below : List Frame} {meth : Method} {c : Code} {b : Nat} {xs : Nat → Int32} {A : Nat → Prop} {dC : Nat → ClassId} {dI : Nat → Nat → Nat} {aT_9 : Nat} {tb_9 : Nat} {aB_9 : Nat} {aS_9 : Nat} {aR_9 : Nat} {aF_9 : Nat} {aX_9 : Nat} {aC_9 : Nat} {cB_9 : ClassId} {cS_9 : ClassId} {cI_9 : ClassId} {cJ_9 : ClassId} {cC_9 : ClassId} {qa_22 : Nat → Nat} {kk_22 : Nat} {cZ_22 : ClassId} {q_0 : Nat} {q_13 : Nat} {H : Heap} {locs : List Loc} {ls : Array Slot} (hx : p.tables.exec = Jvm.exec) (hb : c.code = code) (hr : meth.sig.returnType = ret) (hlocks : meth.locks = false) (hml : c.maxLocals = 4) (hown : s.vm.findClass RL = some m.cls) (hts : ∀ w ∈ wsG (Cond.initialized RX10), w.before #[Value.ref b] s = true) (hA : ∀ q : Nat, s.heap.size ≤ q → A q) (hAI : ∀ q : Nat, A q → s.heap.size ≤ q) (hbA : ¬ A b) (hN : gN s) (hZ : gZ A s s.heap) (hX : va_X b 7 xs s s.heap) (hbl : b < s.heap.size) (hK : va_K (dC, dI) vwCl [(cB_9, .byte), (cS_9, .object RX5), (cI_9, .int), (cJ_9, .long), (cC_9, .object RX1), (cZ_22, .boolean)] s) (hP : va_P (dC, dI) vwCl [(q_0, .inr (9, [.ref aT_9, .ref aB_9, .ref aS_9, .ref aR_9, .ref aF_9, .ref aC_9, .ref aX_9])), (aT_9, .inr (7, [.ref tb_9, .int 0])), (tb_9, .inl (cB_9, 9000, .inl (fun _ => 0))), (q_13, .inr (10, mdF qa_22 (nI kk_22) 0 0 (-1) 1 0 6 125 (-1) (-1) (-1) 0 0 17 0 (-1) 0 0 0)), (qa_22 1, .inl (cB_9, 9000, .inl (fun _ => 0)))] H) (hD : va_D A [(q_0, .inr (9, [.ref aT_9, .ref aB_9, .ref aS_9, .ref aR_9, .ref aF_9, .ref aC_9, .ref aX_9])), (aT_9, .inr (7, [.ref tb_9, .int 0])), (tb_9, .inl (cB_9, 9000, .inl (fun _ => 0))), (q_13, .inr (10, mdF qa_22 (nI kk_22) 0 0 (-1) 1 0 6 125 (-1) (-1) (-1) 0 0 17 0 (-1) 0 0 0)), (qa_22 1, .inl (cB_9, 9000, .inl (fun _ => 0)))]) (hS : va_S A s.heap H locs) (hl : lv_has ls 4 [(3, .int 1), (2, .ref q_13), (1, .ref q_0), (0, .ref b)]) : W p l e room_1 s m #[Value.ref b] below meth c H locs 95 104445 (lw_Z below #[Value.ref b] s) (F0 m 136 ls []) := by
  refine lv_aload_n hx hb dL_law_136 rfl (lv_at hl 2 rfl) ?_
  refine lv_aload_n hx hb dL_law_137 rfl (lv_at hl 3 rfl) ?_
  refine lv_iload_n hx hb dL_law_138 rfl (lv_at hl 0 rfl) ?_
  refine lv_iconst (v := 1) hx hb dL_law_139 (by decide) ?_
  refine lv_iadd hx hb dL_law_140 ?_
  refine g_topi (y := 2) (by decide) ?_
  refine g_sld hx hb hX hbl hbA hS 2 (by decide) (by unfold vp_in; decide) dL_law_141 ?_
  refine lv_aload_n hx hb dL_law_142 rfl (lv_at hl 3 rfl) ?_
  refine lv_iload_n hx hb dL_law_143 rfl (lv_at hl 0 rfl) ?_
  refine lv_iconst (v := 2) hx hb dL_law_144 (by decide) ?_
  refine lv_iadd hx hb dL_law_145 ?_
  refine g_topi (y := 3) (by decide) ?_
  refine g_sld hx hb hX hbl hbA hS 3 (by decide) (by unfold vp_in; decide) dL_law_146 ?_
  refine lv_aload_n hx hb dL_law_147 rfl (lv_at hl 3 rfl) ?_
  refine lv_iload_n hx hb dL_law_148 rfl (lv_at hl 0 rfl) ?_
  refine lv_iconst (v := 3) hx hb dL_law_149 (by decide) ?_
  refine lv_iadd hx hb dL_law_150 ?_
  refine g_topi (y := 4) (by decide) ?_
  refine g_sld hx hb hX hbl hbA hS 4 (by decide) (by unfold vp_in; decide) dL_law_151 ?_
  refine lv_aload_n hx hb dL_law_152 rfl (lv_at hl 3 rfl) ?_
  refine lv_iload_n hx hb dL_law_153 rfl (lv_at hl 0 rfl) ?_
  refine lv_iconst (v := 4) hx hb dL_law_154 (by decide) ?_
  refine lv_iadd hx hb dL_law_155 ?_
  refine g_topi (y := 5) (by decide) ?_
  refine g_sld hx hb hX hbl hbA hS 5 (by decide) (by unfold vp_in; decide) dL_law_156 ?_
  refine lv_aload_n hx hb dL_law_157 rfl (lv_at hl 3 rfl) ?_
  refine lv_iload_n hx hb dL_law_158 rfl (lv_at hl 0 rfl) ?_
  refine lv_iconst (v := 5) hx hb dL_law_159 (by decide) ?_
  refine lv_iadd hx hb dL_law_160 ?_
  refine g_topi (y := 6) (by decide) ?_
  refine g_sld hx hb hX hbl hbA hS 6 (by decide) (by unfold vp_in; decide) dL_law_161 ?_
  refine g_calli (wr := [(q_13, .inr (10, mdF qa_22 (nI kk_22) 0 0 (-1) 1 0 6 125 (-1) (-1) (-1) 0 0 17 0 (-1) 0 0 0)), (qa_22 1, .inl (cB_9, 9000, .inl (fun _ => 0)))]) (va_runV (As := [.int (xs 2), .int (xs 3), .int (xs 4), .int (xs 5), .int (xs 6)]) (rest := []) ⟨hx, hb, hml, hown, hts⟩ (f_feed l dC dI H.size q_0 aT_9 aB_9 aS_9 aR_9 aF_9 aC_9 aX_9 tb_9 cB_9 (xs 2) (xs 3) (xs 4) (xs 5) (xs 6) ) (cwV 5 hts (gG_V kw_232 kw_233 kw_234 kw_2 kw_235) rfl rfl rfl (by decide +kernel) ⟨Nat.le_of_ble_eq_true rfl, Nat.le_of_ble_eq_true rfl⟩) (g_preV (C := RX10) (T := TX10) (N := 7) hP hD hK hS hA hN hZ (q0 := 0) rfl rfl [0, 1, 2] (by decide) rfl [0] rfl) rfl rfl hl.1 rfl (lv_room (Nat.le_of_ble_eq_true rfl)) dL_law_162 ⟨Nat.le_of_ble_eq_true rfl, Nat.le_of_ble_eq_true rfl⟩) hP hD hK hS hA [0, 1, 2] [3, 4] rfl rfl (by decide) (by decide) (fun r_162 w ty1 H locs hw_162 hP hD _ hS => ?_)
  rcases hw_162 with ⟨hu, hr_162⟩
  cases hu
  have hP : va_P (dC, dI) vwCl [(q_13, .inr (10, mdF qa_22 (nI kk_22) 0 0 (-1) 1 0 6 125 (-1) (-1) (-1) 0 0 17 0 (-1) 0 0 0)), (qa_22 1, .inl (cB_9, 9000, .inl (fun _ => 0)))] H := hP
  have hD : va_D A [(q_13, .inr (10, mdF qa_22 (nI kk_22) 0 0 (-1) 1 0 6 125 (-1) (-1) (-1) 0 0 17 0 (-1) 0 0 0)), (qa_22 1, .inl (cB_9, 9000, .inl (fun _ => 0)))] := hD
  refine g_topi (y := 20) hr_162 ?_
  refine lv_aload_n hx hb dL_law_165 rfl (lv_at hl 1 rfl) ?_
  refine lv_aload_n hx hb dL_law_166 rfl (lv_at hl 3 rfl) ?_
  refine lv_iload_n hx hb dL_law_167 rfl (lv_at hl 0 rfl) ?_
  refine lv_iconst (v := 1) hx hb dL_law_168 (by decide) ?_
  refine lv_iadd hx hb dL_law_169 ?_
  refine g_topi (y := 2) (by decide) ?_
  refine g_sld hx hb hX hbl hbA hS 2 (by decide) (by unfold vp_in; decide) dL_law_170 ?_
  refine lv_aload_n hx hb dL_law_171 rfl (lv_at hl 3 rfl) ?_
  refine lv_iload_n hx hb dL_law_172 rfl (lv_at hl 0 rfl) ?_
  refine lv_iconst (v := 2) hx hb dL_law_173 (by decide) ?_
  refine lv_iadd hx hb dL_law_174 ?_
  refine g_topi (y := 3) (by decide) ?_
  refine g_sld hx hb hX hbl hbA hS 3 (by decide) (by unfold vp_in; decide) dL_law_175 ?_
  refine lv_aload_n hx hb dL_law_176 rfl (lv_at hl 3 rfl) ?_
  refine lv_iload_n hx hb dL_law_177 rfl (lv_at hl 0 rfl) ?_
  refine lv_iconst (v := 3) hx hb dL_law_178 (by decide) ?_
  refine lv_iadd hx hb dL_law_179 ?_
  refine g_topi (y := 4) (by decide) ?_
  refine g_sld hx hb hX hbl hbA hS 4 (by decide) (by unfold vp_in; decide) dL_law_180 ?_
  refine lv_aload_n hx hb dL_law_181 rfl (lv_at hl 3 rfl) ?_
  refine lv_iload_n hx hb dL_law_182 rfl (lv_at hl 0 rfl) ?_
  refine lv_iconst (v := 4) hx hb dL_law_183 (by decide) ?_
  refine lv_iadd hx hb dL_law_184 ?_
  refine g_topi (y := 5) (by decide) ?_
  refine g_sld hx hb hX hbl hbA hS 5 (by decide) (by unfold vp_in; decide) dL_law_185 ?_
  refine lv_aload_n hx hb dL_law_186 rfl (lv_at hl 3 rfl) ?_
  refine lv_iload_n hx hb dL_law_187 rfl (lv_at hl 0 rfl) ?_
  refine lv_iconst (v := 5) hx hb dL_law_188 (by decide) ?_
  refine lv_iadd hx hb dL_law_189 ?_
  refine g_topi (y := 6) (by decide) ?_
  refine g_sld hx hb hX hbl hbA hS 6 (by decide) (by unfold vp_in; decide) dL_law_190 ?_
  refine g_calli (wr := []) (va_runV (As := [.int (xs 2), .int (xs 3), .int (xs 4), .int (xs 5), .int (xs 6)]) (rest := [.int 20]) ⟨hx, hb, hml, hown, hts⟩ (mf_feed l dC dI H.size q_13 qa_22 kk_22 cB_9 (xs 2) (xs 3) (xs 4) (xs 5) (xs 6) ) (cwV 5 hts (gG_V kw_249 kw_250 kw_251 kw_5 kw_252) rfl rfl rfl (by decide +kernel) ⟨Nat.le_of_ble_eq_true rfl, Nat.le_of_ble_eq_true rfl⟩) (g_preV (C := RX11) (T := TX11) (N := 53) hP hD hK hS hA hN hZ (q0 := 0) rfl rfl [0, 1] (by decide) rfl [0] rfl) rfl rfl hl.1 rfl (lv_room (Nat.le_of_ble_eq_true rfl)) dL_law_191 ⟨Nat.le_of_ble_eq_true rfl, Nat.le_of_ble_eq_true rfl⟩) hP hD hK hS hA [0, 1] [] rfl rfl (by decide) (by decide) (fun r_191 w ty1 H locs hw_191 hP hD _ hS => ?_)
  rcases hw_191 with ⟨hu, hr_191⟩
  cases hu
  have hP : va_P (dC, dI) vwCl [] H := hP
  have hD : va_D A [] := hD
  refine g_topi (y := 20) hr_191 ?_
  refine lv_icmp_eq (tgt := 800) hx hb dL_law_194 (by decide) (fun c_194 => ?_) (fun c_194 => absurd c_194 (by decide))
  refine lv_iinc (v := 7) (lv' := [(3, .int 7), (2, .ref q_13), (1, .ref q_0), (0, .ref b)]) hx hb dL_law_800 hl (k := 0) rfl (by decide) (by decide) rfl (fun ls hl => ?_)
  refine lv_goto (tgt := 28) hx hb dL_law_803 (by decide) ?_
  refine lv_iload_n hx hb dL_law_28 rfl (lv_at hl 0 rfl) ?_
  refine lv_aload_n hx hb dL_law_29 rfl (lv_at hl 3 rfl) ?_
  refine va_slen hx hb hX hbl hbA hS dL_law_30 ?_
  refine g_topi (y := 7) rfl ?_
  refine lv_bipush (v := 6) hx hb dL_law_31 (by decide) ?_
  refine lv_isub hx hb dL_law_33 ?_
  refine g_topi (y := 1) (by decide) ?_
  refine lv_icmp_gt (tgt := 806) hx hb dL_law_34 (by decide) (fun c_34_2 => ?_) (fun c_34_2 => absurd c_34_2 (by decide))
  refine lv_iconst (v := 1) hx hb dL_law_806 (by decide) ?_
  refine va_forget (fun q hq => hAI _ (hS.2.2 q hq)) ?_
  refine W.widen (k := 600000) (n := 7302250) (Nat.le_of_ble_eq_true rfl) (Nat.le_of_ble_eq_true rfl) ?_
  exact lw_ret hx hb hr hlocks dL_law_807

set_option maxHeartbeats 1000000 in
set_option maxRecDepth 100000 in
theorem lawc_199 {p : Program} {l : Launch} {e : Env} {s : State} {m : MethodId} {below : List Frame} {meth : Method} {c : Code} {b : Nat} {xs : Nat → Int32} {A : Nat → Prop} {dC : Nat → ClassId} {dI : Nat → Nat → Nat} {aT_9 : Nat} {tb_9 : Nat} {aB_9 : Nat} {aS_9 : Nat} {aR_9 : Nat} {aF_9 : Nat} {aX_9 : Nat} {aC_9 : Nat} {cB_9 : ClassId} {cS_9 : ClassId} {cI_9 : ClassId} {cJ_9 : ClassId} {cC_9 : ClassId} {qa_22 : Nat → Nat} {kk_22 : Nat} {cZ_22 : ClassId} {q_0 : Nat} {q_13 : Nat} {H : Heap} {locs : List Loc} {ls : Array Slot} (hx : p.tables.exec = Jvm.exec) (hb : c.code = code) (hr : meth.sig.returnType = ret) (hlocks : meth.locks = false) (hml : c.maxLocals = 4) (hown : s.vm.findClass RL = some m.cls) (hts : ∀ w ∈ wsG (Cond.initialized RX10), w.before #[Value.ref b] s = true) (hA : ∀ q : Nat, s.heap.size ≤ q → A q) (hAI : ∀ q : Nat, A q → s.heap.size ≤ q) (hbA : ¬ A b) (hN : gN s) (hZ : gZ A s s.heap) (hX : va_X b 7 xs s s.heap) (hbl : b < s.heap.size) (hK : va_K (dC, dI) vwCl [(cB_9, .byte), (cS_9, .object RX5), (cI_9, .int), (cJ_9, .long), (cC_9, .object RX1), (cZ_22, .boolean)] s) (hP : va_P (dC, dI) vwCl [(q_0, .inr (9, [.ref aT_9, .ref aB_9, .ref aS_9, .ref aR_9, .ref aF_9, .ref aC_9, .ref aX_9])), (aT_9, .inr (7, [.ref tb_9, .int 0])), (tb_9, .inl (cB_9, 9000, .inl (fun _ => 0))), (q_13, .inr (10, mdF qa_22 (nI kk_22) 0 0 (-1) 1 0 6 125 (-1) (-1) (-1) 0 0 17 0 (-1) 0 0 0))] H) (hD : va_D A [(q_0, .inr (9, [.ref aT_9, .ref aB_9, .ref aS_9, .ref aR_9, .ref aF_9, .ref aC_9, .ref aX_9])), (aT_9, .inr (7, [.ref tb_9, .int 0])), (tb_9, .inl (cB_9, 9000, .inl (fun _ => 0))), (q_13, .inr (10, mdF qa_22 (nI kk_22) 0 0 (-1) 1 0 6 125 (-1) (-1) (-1) 0 0 17 0 (-1) 0 0 0))]) (hS : va_S A s.heap H locs) (hl : lv_has ls 4 [(3, .int 1), (2, .ref q_13), (1, .ref q_0), (0, .ref b)]) : W p l e room_1 s m #[Value.ref b] below meth c H locs 95 104445 (lw_Z below #[Value.ref b] s) (F0 m 199 ls []) := by
  refine lv_aload_n hx hb dL_law_199 rfl (lv_at hl 2 rfl) ?_
  refine lv_aload_n hx hb dL_law_200 rfl (lv_at hl 3 rfl) ?_
  refine lv_iload_n hx hb dL_law_201 rfl (lv_at hl 0 rfl) ?_
  refine lv_iconst (v := 1) hx hb dL_law_202 (by decide) ?_
  refine lv_iadd hx hb dL_law_203 ?_
  refine g_topi (y := 2) (by decide) ?_
  refine g_sld hx hb hX hbl hbA hS 2 (by decide) (by unfold vp_in; decide) dL_law_204 ?_
  refine g_calli (wr := [(q_13, .inr (10, mdF qa_22 (nI kk_22) 0 0 (-1) 1 0 6 125 (-1) (-1) (-1) 0 0 17 0 (-1) 0 0 0))]) (va_runV (As := [.int (xs 2)]) (rest := []) ⟨hx, hb, hml, hown, hts⟩ (f_end l dC dI H.size q_0 aT_9 aB_9 aS_9 aR_9 aF_9 aC_9 aX_9 tb_9 cB_9 (xs 2) ) (cwV 1 hts (gG_V kw_258 kw_259 kw_260 kw_2 kw_261) rfl rfl rfl (by decide +kernel) ⟨Nat.le_of_ble_eq_true rfl, Nat.le_of_ble_eq_true rfl⟩) (g_preV (C := RX10) (T := TX10) (N := 7) hP hD hK hS hA hN hZ (q0 := 0) rfl rfl [0, 1, 2] (by decide) rfl [0] rfl) rfl rfl hl.1 rfl (lv_room (Nat.le_of_ble_eq_true rfl)) dL_law_205 ⟨Nat.le_of_ble_eq_true rfl, Nat.le_of_ble_eq_true rfl⟩) hP hD hK hS hA [0, 1, 2] [3] rfl rfl (by decide) (by decide) (fun r_205 w ty1 H locs hw_205 hP hD _ hS => ?_)
  rcases hw_205 with ⟨hu, hr_205⟩
  cases hu
  have hP : va_P (dC, dI) vwCl [(q_13, .inr (10, mdF qa_22 (nI kk_22) 0 0 (-1) 1 0 6 125 (-1) (-1) (-1) 0 0 17 0 (-1) 0 0 0))] H := hP
  have hD : va_D A [(q_13, .inr (10, mdF qa_22 (nI kk_22) 0 0 (-1) 1 0 6 125 (-1) (-1) (-1) 0 0 17 0 (-1) 0 0 0))] := hD
  refine g_topi (y := bF ((xs 2) = 0)) hr_205 ?_
  refine lv_aload_n hx hb dL_law_208 rfl (lv_at hl 1 rfl) ?_
  refine lv_aload_n hx hb dL_law_209 rfl (lv_at hl 3 rfl) ?_
  refine lv_iload_n hx hb dL_law_210 rfl (lv_at hl 0 rfl) ?_
  refine lv_iconst (v := 1) hx hb dL_law_211 (by decide) ?_
  refine lv_iadd hx hb dL_law_212 ?_
  refine g_topi (y := 2) (by decide) ?_
  refine g_sld hx hb hX hbl hbA hS 2 (by decide) (by unfold vp_in; decide) dL_law_213 ?_
  refine g_calli (wr := []) (va_runV (As := [.int (xs 2)]) (rest := [.int (bF ((xs 2) = 0))]) ⟨hx, hb, hml, hown, hts⟩ (mf_end l dC dI H.size q_13 qa_22 kk_22 (xs 2) ) (cwV 1 hts (gG_V kw_262 kw_263 kw_264 kw_5 kw_265) rfl rfl rfl (by decide +kernel) ⟨Nat.le_of_ble_eq_true rfl, Nat.le_of_ble_eq_true rfl⟩) (g_preV (C := RX11) (T := TX11) (N := 53) hP hD hK hS hA hN hZ (q0 := 0) rfl rfl [0] (by decide) rfl [] rfl) rfl rfl hl.1 rfl (lv_room (Nat.le_of_ble_eq_true rfl)) dL_law_214 ⟨Nat.le_of_ble_eq_true rfl, Nat.le_of_ble_eq_true rfl⟩) hP hD hK hS hA [0] [] rfl rfl (by decide) (by decide) (fun r_214 w ty1 H locs hw_214 hP hD _ hS => ?_)
  rcases hw_214 with ⟨hu, hr_214⟩
  cases hu
  have hP : va_P (dC, dI) vwCl [] H := hP
  have hD : va_D A [] := hD
  refine g_topi (y := bF ((xs 2) = 0)) hr_214 ?_
  refine lv_icmp_eq (tgt := 800) hx hb dL_law_217 (by decide) (fun c_217 => ?_) (fun c_217 => absurd rfl c_217)
  refine lv_iinc (v := 7) (lv' := [(3, .int 7), (2, .ref q_13), (1, .ref q_0), (0, .ref b)]) hx hb dL_law_800 hl (k := 0) rfl (by decide) (by decide) rfl (fun ls hl => ?_)
  refine lv_goto (tgt := 28) hx hb dL_law_803 (by decide) ?_
  refine lv_iload_n hx hb dL_law_28 rfl (lv_at hl 0 rfl) ?_
  refine lv_aload_n hx hb dL_law_29 rfl (lv_at hl 3 rfl) ?_
  refine va_slen hx hb hX hbl hbA hS dL_law_30 ?_
  refine g_topi (y := 7) rfl ?_
  refine lv_bipush (v := 6) hx hb dL_law_31 (by decide) ?_
  refine lv_isub hx hb dL_law_33 ?_
  refine g_topi (y := 1) (by decide) ?_
  refine lv_icmp_gt (tgt := 806) hx hb dL_law_34 (by decide) (fun c_34_2 => ?_) (fun c_34_2 => absurd c_34_2 (by decide))
  refine lv_iconst (v := 1) hx hb dL_law_806 (by decide) ?_
  refine va_forget (fun q hq => hAI _ (hS.2.2 q hq)) ?_
  refine W.widen (k := 600000) (n := 7302250) (Nat.le_of_ble_eq_true rfl) (Nat.le_of_ble_eq_true rfl) ?_
  exact lw_ret hx hb hr hlocks dL_law_807

set_option maxHeartbeats 1000000 in
set_option maxRecDepth 100000 in
theorem lawc_222 {p : Program} {l : Launch} {e : Env} {s : State} {m : MethodId} {below : List Frame} {meth : Method} {c : Code} {b : Nat} {xs : Nat → Int32} {A : Nat → Prop} {dC : Nat → ClassId} {dI : Nat → Nat → Nat} {aT_9 : Nat} {tb_9 : Nat} {aB_9 : Nat} {aS_9 : Nat} {aR_9 : Nat} {aF_9 : Nat} {aX_9 : Nat} {aC_9 : Nat} {cB_9 : ClassId} {cS_9 : ClassId} {cI_9 : ClassId} {cJ_9 : ClassId} {cC_9 : ClassId} {qa_22 : Nat → Nat} {kk_22 : Nat} {cZ_22 : ClassId} {q_0 : Nat} {q_13 : Nat} {H : Heap} {locs : List Loc} {ls : Array Slot} (hx : p.tables.exec = Jvm.exec) (hb : c.code = code) (hr : meth.sig.returnType = ret) (hlocks : meth.locks = false) (hml : c.maxLocals = 4) (hown : s.vm.findClass RL = some m.cls) (hts : ∀ w ∈ wsG (Cond.initialized RX10), w.before #[Value.ref b] s = true) (hA : ∀ q : Nat, s.heap.size ≤ q → A q) (hAI : ∀ q : Nat, A q → s.heap.size ≤ q) (hbA : ¬ A b) (hN : gN s) (hZ : gZ A s s.heap) (hX : va_X b 7 xs s s.heap) (hbl : b < s.heap.size) (hK : va_K (dC, dI) vwCl [(cB_9, .byte), (cS_9, .object RX5), (cI_9, .int), (cJ_9, .long), (cC_9, .object RX1), (cZ_22, .boolean)] s) (hP : va_P (dC, dI) vwCl [(q_0, .inr (9, [.ref aT_9, .ref aB_9, .ref aS_9, .ref aR_9, .ref aF_9, .ref aC_9, .ref aX_9])), (aT_9, .inr (7, [.ref tb_9, .int 0])), (tb_9, .inl (cB_9, 9000, .inl (fun _ => 0))), (q_13, .inr (10, mdF qa_22 (nI kk_22) 0 0 (-1) 1 0 6 125 (-1) (-1) (-1) 0 0 17 0 (-1) 0 0 0)), (qa_22 1, .inl (cB_9, 9000, .inl (fun _ => 0)))] H) (hD : va_D A [(q_0, .inr (9, [.ref aT_9, .ref aB_9, .ref aS_9, .ref aR_9, .ref aF_9, .ref aC_9, .ref aX_9])), (aT_9, .inr (7, [.ref tb_9, .int 0])), (tb_9, .inl (cB_9, 9000, .inl (fun _ => 0))), (q_13, .inr (10, mdF qa_22 (nI kk_22) 0 0 (-1) 1 0 6 125 (-1) (-1) (-1) 0 0 17 0 (-1) 0 0 0)), (qa_22 1, .inl (cB_9, 9000, .inl (fun _ => 0)))]) (hS : va_S A s.heap H locs) (hl : lv_has ls 4 [(3, .int 1), (2, .ref q_13), (1, .ref q_0), (0, .ref b)]) : W p l e room_1 s m #[Value.ref b] below meth c H locs 95 104445 (lw_Z below #[Value.ref b] s) (F0 m 222 ls []) := by
  refine lv_aload_n hx hb dL_law_222 rfl (lv_at hl 2 rfl) ?_
  refine lv_aload_n hx hb dL_law_223 rfl (lv_at hl 3 rfl) ?_
  refine lv_iload_n hx hb dL_law_224 rfl (lv_at hl 0 rfl) ?_
  refine lv_iconst (v := 1) hx hb dL_law_225 (by decide) ?_
  refine lv_iadd hx hb dL_law_226 ?_
  refine g_topi (y := 2) (by decide) ?_
  refine g_sld hx hb hX hbl hbA hS 2 (by decide) (by unfold vp_in; decide) dL_law_227 ?_
  refine lv_aload_n hx hb dL_law_228 rfl (lv_at hl 3 rfl) ?_
  refine lv_iload_n hx hb dL_law_229 rfl (lv_at hl 0 rfl) ?_
  refine lv_iconst (v := 2) hx hb dL_law_230 (by decide) ?_
  refine lv_iadd hx hb dL_law_231 ?_
  refine g_topi (y := 3) (by decide) ?_
  refine g_sld hx hb hX hbl hbA hS 3 (by decide) (by unfold vp_in; decide) dL_law_232 ?_
  refine g_calli (wr := [(q_13, .inr (10, mdF qa_22 (nI kk_22) 0 0 (-1) 1 0 6 125 (-1) (-1) (-1) 0 0 17 0 (-1) 0 0 0)), (qa_22 1, .inl (cB_9, 9000, .inl (fun _ => 0)))]) (va_runV (As := [.int (xs 2), .int (xs 3)]) (rest := []) ⟨hx, hb, hml, hown, hts⟩ (f_poke l dC dI H.size q_0 aT_9 aB_9 aS_9 aR_9 aF_9 aC_9 aX_9 tb_9 cB_9 (xs 2) (xs 3) ) (cwV 2 hts (gG_V kw_269 kw_270 kw_271 kw_2 kw_272) rfl rfl rfl (by decide +kernel) ⟨Nat.le_of_ble_eq_true rfl, Nat.le_of_ble_eq_true rfl⟩) (g_preV (C := RX10) (T := TX10) (N := 7) hP hD hK hS hA hN hZ (q0 := 0) rfl rfl [0, 1, 2] (by decide) rfl [0] rfl) rfl rfl hl.1 rfl (lv_room (Nat.le_of_ble_eq_true rfl)) dL_law_233 ⟨Nat.le_of_ble_eq_true rfl, Nat.le_of_ble_eq_true rfl⟩) hP hD hK hS hA [0, 1, 2] [3, 4] rfl rfl (by decide) (by decide) (fun r_233 w ty1 H locs hw_233 hP hD _ hS => ?_)
  rcases hw_233 with ⟨hu, hr_233⟩
  cases hu
  have hP : va_P (dC, dI) vwCl [(q_13, .inr (10, mdF qa_22 (nI kk_22) 0 0 (-1) 1 0 6 125 (-1) (-1) (-1) 0 0 17 0 (-1) 0 0 0)), (qa_22 1, .inl (cB_9, 9000, .inl (fun _ => 0)))] H := hP
  have hD : va_D A [(q_13, .inr (10, mdF qa_22 (nI kk_22) 0 0 (-1) 1 0 6 125 (-1) (-1) (-1) 0 0 17 0 (-1) 0 0 0)), (qa_22 1, .inl (cB_9, 9000, .inl (fun _ => 0)))] := hD
  refine g_topi (y := pokeF (xs 2)) hr_233 ?_
  refine lv_aload_n hx hb dL_law_236 rfl (lv_at hl 1 rfl) ?_
  refine lv_aload_n hx hb dL_law_237 rfl (lv_at hl 3 rfl) ?_
  refine lv_iload_n hx hb dL_law_238 rfl (lv_at hl 0 rfl) ?_
  refine lv_iconst (v := 1) hx hb dL_law_239 (by decide) ?_
  refine lv_iadd hx hb dL_law_240 ?_
  refine g_topi (y := 2) (by decide) ?_
  refine g_sld hx hb hX hbl hbA hS 2 (by decide) (by unfold vp_in; decide) dL_law_241 ?_
  refine lv_aload_n hx hb dL_law_242 rfl (lv_at hl 3 rfl) ?_
  refine lv_iload_n hx hb dL_law_243 rfl (lv_at hl 0 rfl) ?_
  refine lv_iconst (v := 2) hx hb dL_law_244 (by decide) ?_
  refine lv_iadd hx hb dL_law_245 ?_
  refine g_topi (y := 3) (by decide) ?_
  refine g_sld hx hb hX hbl hbA hS 3 (by decide) (by unfold vp_in; decide) dL_law_246 ?_
  refine g_calli (wr := []) (va_runV (As := [.int (xs 2), .int (xs 3)]) (rest := [.int (pokeF (xs 2))]) ⟨hx, hb, hml, hown, hts⟩ (mf_poke l dC dI H.size q_13 qa_22 kk_22 cB_9 (xs 2) (xs 3) ) (cwV 2 hts (gG_V kw_275 kw_276 kw_277 kw_5 kw_278) rfl rfl rfl (by decide +kernel) ⟨Nat.le_of_ble_eq_true rfl, Nat.le_of_ble_eq_true rfl⟩) (g_preV (C := RX11) (T := TX11) (N := 53) hP hD hK hS hA hN hZ (q0 := 0) rfl rfl [0, 1] (by decide) rfl [0] rfl) rfl rfl hl.1 rfl (lv_room (Nat.le_of_ble_eq_true rfl)) dL_law_247 ⟨Nat.le_of_ble_eq_true rfl, Nat.le_of_ble_eq_true rfl⟩) hP hD hK hS hA [0, 1] [] rfl rfl (by decide) (by decide) (fun r_247 w ty1 H locs hw_247 hP hD _ hS => ?_)
  rcases hw_247 with ⟨hu, hr_247⟩
  cases hu
  have hP : va_P (dC, dI) vwCl [] H := hP
  have hD : va_D A [] := hD
  refine g_topi (y := pokeF (xs 2)) hr_247 ?_
  refine lv_icmp_eq (tgt := 800) hx hb dL_law_250 (by decide) (fun c_250 => ?_) (fun c_250 => absurd rfl c_250)
  refine lv_iinc (v := 7) (lv' := [(3, .int 7), (2, .ref q_13), (1, .ref q_0), (0, .ref b)]) hx hb dL_law_800 hl (k := 0) rfl (by decide) (by decide) rfl (fun ls hl => ?_)
  refine lv_goto (tgt := 28) hx hb dL_law_803 (by decide) ?_
  refine lv_iload_n hx hb dL_law_28 rfl (lv_at hl 0 rfl) ?_
  refine lv_aload_n hx hb dL_law_29 rfl (lv_at hl 3 rfl) ?_
  refine va_slen hx hb hX hbl hbA hS dL_law_30 ?_
  refine g_topi (y := 7) rfl ?_
  refine lv_bipush (v := 6) hx hb dL_law_31 (by decide) ?_
  refine lv_isub hx hb dL_law_33 ?_
  refine g_topi (y := 1) (by decide) ?_
  refine lv_icmp_gt (tgt := 806) hx hb dL_law_34 (by decide) (fun c_34_2 => ?_) (fun c_34_2 => absurd c_34_2 (by decide))
  refine lv_iconst (v := 1) hx hb dL_law_806 (by decide) ?_
  refine va_forget (fun q hq => hAI _ (hS.2.2 q hq)) ?_
  refine W.widen (k := 600000) (n := 7302250) (Nat.le_of_ble_eq_true rfl) (Nat.le_of_ble_eq_true rfl) ?_
  exact lw_ret hx hb hr hlocks dL_law_807

set_option maxHeartbeats 1000000 in
set_option maxRecDepth 100000 in
theorem lawc_255 {p : Program} {l : Launch} {e : Env} {s : State} {m : MethodId} {below : List Frame} {meth : Method} {c : Code} {b : Nat} {xs : Nat → Int32} {A : Nat → Prop} {dC : Nat → ClassId} {dI : Nat → Nat → Nat} {aT_9 : Nat} {tb_9 : Nat} {aB_9 : Nat} {aS_9 : Nat} {aR_9 : Nat} {aF_9 : Nat} {aX_9 : Nat} {aC_9 : Nat} {cB_9 : ClassId} {cS_9 : ClassId} {cI_9 : ClassId} {cJ_9 : ClassId} {cC_9 : ClassId} {qa_22 : Nat → Nat} {kk_22 : Nat} {cZ_22 : ClassId} {q_0 : Nat} {q_13 : Nat} {H : Heap} {locs : List Loc} {ls : Array Slot} (hx : p.tables.exec = Jvm.exec) (hb : c.code = code) (hr : meth.sig.returnType = ret) (hlocks : meth.locks = false) (hml : c.maxLocals = 4) (hown : s.vm.findClass RL = some m.cls) (hts : ∀ w ∈ wsG (Cond.initialized RX10), w.before #[Value.ref b] s = true) (hA : ∀ q : Nat, s.heap.size ≤ q → A q) (hAI : ∀ q : Nat, A q → s.heap.size ≤ q) (hbA : ¬ A b) (hN : gN s) (hZ : gZ A s s.heap) (hX : va_X b 7 xs s s.heap) (hbl : b < s.heap.size) (hK : va_K (dC, dI) vwCl [(cB_9, .byte), (cS_9, .object RX5), (cI_9, .int), (cJ_9, .long), (cC_9, .object RX1), (cZ_22, .boolean)] s) (hP : va_P (dC, dI) vwCl [(q_0, .inr (9, [.ref aT_9, .ref aB_9, .ref aS_9, .ref aR_9, .ref aF_9, .ref aC_9, .ref aX_9])), (aT_9, .inr (7, [.ref tb_9, .int 0])), (aR_9, .inr (4, [.int 0, .int (-1)])), (q_13, .inr (10, mdF qa_22 (nI kk_22) 0 0 (-1) 1 0 6 125 (-1) (-1) (-1) 0 0 17 0 (-1) 0 0 0))] H) (hD : va_D A [(q_0, .inr (9, [.ref aT_9, .ref aB_9, .ref aS_9, .ref aR_9, .ref aF_9, .ref aC_9, .ref aX_9])), (aT_9, .inr (7, [.ref tb_9, .int 0])), (aR_9, .inr (4, [.int 0, .int (-1)])), (q_13, .inr (10, mdF qa_22 (nI kk_22) 0 0 (-1) 1 0 6 125 (-1) (-1) (-1) 0 0 17 0 (-1) 0 0 0))]) (hS : va_S A s.heap H locs) (hl : lv_has ls 4 [(3, .int 1), (2, .ref q_13), (1, .ref q_0), (0, .ref b)]) : W p l e room_1 s m #[Value.ref b] below meth c H locs 95 104445 (lw_Z below #[Value.ref b] s) (F0 m 255 ls []) := by
  refine lv_aload_n hx hb dL_law_255 rfl (lv_at hl 2 rfl) ?_
  refine g_calli (wr := [(q_13, .inr (10, mdF qa_22 (nI kk_22) 0 0 (-1) 1 0 6 125 (-1) (-1) (-1) 0 0 17 0 (-1) 0 0 0))]) (va_runV (As := []) (rest := []) ⟨hx, hb, hml, hown, hts⟩ (f_load l dC dI H.size q_0 aT_9 aB_9 aS_9 aR_9 aF_9 aC_9 aX_9 tb_9 ) (cwV 0 hts (gG_V kw_279 kw_280 kw_281 kw_2 kw_282) rfl rfl rfl (by decide +kernel) ⟨Nat.le_of_ble_eq_true rfl, Nat.le_of_ble_eq_true rfl⟩) (g_preV (C := RX10) (T := TX10) (N := 7) hP hD hK hS hA hN hZ (q0 := 0) rfl rfl [0, 2, 1] (by decide) rfl [] rfl) rfl rfl hl.1 rfl (lv_room (Nat.le_of_ble_eq_true rfl)) dL_law_256 ⟨Nat.le_of_ble_eq_true rfl, Nat.le_of_ble_eq_true rfl⟩) hP hD hK hS hA [0, 2, 1] [3] rfl rfl (by decide) (by decide) (fun r_256 w ty1 H locs hw_256 hP hD _ hS => ?_)
  rcases hw_256 with ⟨hu, hr_256⟩
  cases hu
  have hP : va_P (dC, dI) vwCl [(q_13, .inr (10, mdF qa_22 (nI kk_22) 0 0 (-1) 1 0 6 125 (-1) (-1) (-1) 0 0 17 0 (-1) 0 0 0))] H := hP
  have hD : va_D A [(q_13, .inr (10, mdF qa_22 (nI kk_22) 0 0 (-1) 1 0 6 125 (-1) (-1) (-1) 0 0 17 0 (-1) 0 0 0))] := hD
  refine g_topi (y := (-1)) hr_256 ?_
  refine lv_aload_n hx hb dL_law_259 rfl (lv_at hl 1 rfl) ?_
  refine g_calli (wr := []) (va_runV (As := []) (rest := [.int (-1)]) ⟨hx, hb, hml, hown, hts⟩ (mf_load l dC dI H.size q_13 qa_22 kk_22 ) (cwV 0 hts (gG_V kw_420 kw_421 kw_422 kw_5 kw_423) rfl rfl rfl (by decide +kernel) ⟨Nat.le_of_ble_eq_true rfl, Nat.le_of_ble_eq_true rfl⟩) (g_preV (C := RX11) (T := TX11) (N := 53) hP hD hK hS hA hN hZ (q0 := 0) rfl rfl [0] (by decide) rfl [] rfl) rfl rfl hl.1 rfl (lv_room (Nat.le_of_ble_eq_true rfl)) dL_law_260 ⟨Nat.le_of_ble_eq_true rfl, Nat.le_of_ble_eq_true rfl⟩) hP hD hK hS hA [0] [] rfl rfl (by decide) (by decide) (fun r_260 w ty1 H locs hw_260 hP hD _ hS => ?_)
  rcases hw_260 with ⟨hu, hr_260⟩
  cases hu
  have hP : va_P (dC, dI) vwCl [] H := hP
  have hD : va_D A [] := hD
  refine g_topi (y := (-1)) hr_260 ?_
  refine lv_icmp_eq (tgt := 800) hx hb dL_law_263 (by decide) (fun c_263 => ?_) (fun c_263 => absurd c_263 (by decide))
  refine lv_iinc (v := 7) (lv' := [(3, .int 7), (2, .ref q_13), (1, .ref q_0), (0, .ref b)]) hx hb dL_law_800 hl (k := 0) rfl (by decide) (by decide) rfl (fun ls hl => ?_)
  refine lv_goto (tgt := 28) hx hb dL_law_803 (by decide) ?_
  refine lv_iload_n hx hb dL_law_28 rfl (lv_at hl 0 rfl) ?_
  refine lv_aload_n hx hb dL_law_29 rfl (lv_at hl 3 rfl) ?_
  refine va_slen hx hb hX hbl hbA hS dL_law_30 ?_
  refine g_topi (y := 7) rfl ?_
  refine lv_bipush (v := 6) hx hb dL_law_31 (by decide) ?_
  refine lv_isub hx hb dL_law_33 ?_
  refine g_topi (y := 1) (by decide) ?_
  refine lv_icmp_gt (tgt := 806) hx hb dL_law_34 (by decide) (fun c_34_2 => ?_) (fun c_34_2 => absurd c_34_2 (by decide))
  refine lv_iconst (v := 1) hx hb dL_law_806 (by decide) ?_
  refine va_forget (fun q hq => hAI _ (hS.2.2 q hq)) ?_
  refine W.widen (k := 600000) (n := 7302250) (Nat.le_of_ble_eq_true rfl) (Nat.le_of_ble_eq_true rfl) ?_
  exact lw_ret hx hb hr hlocks dL_law_807

set_option maxHeartbeats 1000000 in
set_option maxRecDepth 100000 in
theorem lawc_268 {p : Program} {l : Launch} {e : Env} {s : State} {m : MethodId} {below : List Frame} {meth : Method} {c : Code} {b : Nat} {xs : Nat → Int32} {A : Nat → Prop} {dC : Nat → ClassId} {dI : Nat → Nat → Nat} {aT_9 : Nat} {aB_9 : Nat} {aS_9 : Nat} {aR_9 : Nat} {aF_9 : Nat} {aX_9 : Nat} {aC_9 : Nat} {cB_9 : ClassId} {cS_9 : ClassId} {cI_9 : ClassId} {cJ_9 : ClassId} {cC_9 : ClassId} {qa_22 : Nat → Nat} {kk_22 : Nat} {cZ_22 : ClassId} {q_0 : Nat} {q_13 : Nat} {H : Heap} {locs : List Loc} {ls : Array Slot} (hx : p.tables.exec = Jvm.exec) (hb : c.code = code) (hr : meth.sig.returnType = ret) (hlocks : meth.locks = false) (hml : c.maxLocals = 4) (hown : s.vm.findClass RL = some m.cls) (hts : ∀ w ∈ wsG (Cond.initialized RX10), w.before #[Value.ref b] s = true) (hA : ∀ q : Nat, s.heap.size ≤ q → A q) (hAI : ∀ q : Nat, A q → s.heap.size ≤ q) (hbA : ¬ A b) (hN : gN s) (hZ : gZ A s s.heap) (hX : va_X b 7 xs s s.heap) (hbl : b < s.heap.size) (hK : va_K (dC, dI) vwCl [(cB_9, .byte), (cS_9, .object RX5), (cI_9, .int), (cJ_9, .long), (cC_9, .object RX1), (cZ_22, .boolean)] s) (hP : va_P (dC, dI) vwCl [(q_0, .inr (9, [.ref aT_9, .ref aB_9, .ref aS_9, .ref aR_9, .ref aF_9, .ref aC_9, .ref aX_9])), (aR_9, .inr (4, [.int 0, .int (-1)])), (q_13, .inr (10, mdF qa_22 (nI kk_22) 0 0 (-1) 1 0 6 125 (-1) (-1) (-1) 0 0 17 0 (-1) 0 0 0))] H) (hD : va_D A [(q_0, .inr (9, [.ref aT_9, .ref aB_9, .ref aS_9, .ref aR_9, .ref aF_9, .ref aC_9, .ref aX_9])), (aR_9, .inr (4, [.int 0, .int (-1)])), (q_13, .inr (10, mdF qa_22 (nI kk_22) 0 0 (-1) 1 0 6 125 (-1) (-1) (-1) 0 0 17 0 (-1) 0 0 0))]) (hS : va_S A s.heap H locs) (hl : lv_has ls 4 [(3, .int 1), (2, .ref q_13), (1, .ref q_0), (0, .ref b)]) : W p l e room_1 s m #[Value.ref b] below meth c H locs 95 104445 (lw_Z below #[Value.ref b] s) (F0 m 268 ls []) := by
  refine lv_aload_n hx hb dL_law_268 rfl (lv_at hl 2 rfl) ?_
  refine lv_aload_n hx hb dL_law_269 rfl (lv_at hl 3 rfl) ?_
  refine lv_iload_n hx hb dL_law_270 rfl (lv_at hl 0 rfl) ?_
  refine lv_iconst (v := 1) hx hb dL_law_271 (by decide) ?_
  refine lv_iadd hx hb dL_law_272 ?_
  refine g_topi (y := 2) (by decide) ?_
  refine g_sld hx hb hX hbl hbA hS 2 (by decide) (by unfold vp_in; decide) dL_law_273 ?_
  refine g_calli (wr := [(q_13, .inr (10, mdF qa_22 (nI kk_22) 0 0 (-1) 1 0 6 125 (-1) (-1) (-1) 0 0 17 0 (-1) 0 0 0))]) (va_runV (As := [.int (xs 2)]) (rest := []) ⟨hx, hb, hml, hown, hts⟩ (f_fault l dC dI H.size q_0 aT_9 aB_9 aS_9 aR_9 aF_9 aC_9 aX_9 (xs 2) ) (cwV 1 hts (gG_V kw_452 kw_453 kw_454 kw_2 kw_455) rfl rfl rfl (by decide +kernel) ⟨Nat.le_of_ble_eq_true rfl, Nat.le_of_ble_eq_true rfl⟩) (g_preV (C := RX10) (T := TX10) (N := 7) hP hD hK hS hA hN hZ (q0 := 0) rfl rfl [0, 1] (by decide) rfl [] rfl) rfl rfl hl.1 rfl (lv_room (Nat.le_of_ble_eq_true rfl)) dL_law_274 ⟨Nat.le_of_ble_eq_true rfl, Nat.le_of_ble_eq_true rfl⟩) hP hD hK hS hA [0, 1] [2] rfl rfl (by decide) (by decide) (fun r_274 w ty1 H locs hw_274 hP hD _ hS => ?_)
  rcases hw_274 with ⟨hu, hr_274⟩
  cases hu
  have hP : va_P (dC, dI) vwCl [(q_13, .inr (10, mdF qa_22 (nI kk_22) 0 0 (-1) 1 0 6 125 (-1) (-1) (-1) 0 0 17 0 (-1) 0 0 0))] H := hP
  have hD : va_D A [(q_13, .inr (10, mdF qa_22 (nI kk_22) 0 0 (-1) 1 0 6 125 (-1) (-1) (-1) 0 0 17 0 (-1) 0 0 0))] := hD
  refine g_topi (y := faultF (xs 2)) hr_274 ?_
  refine lv_aload_n hx hb dL_law_277 rfl (lv_at hl 1 rfl) ?_
  refine lv_aload_n hx hb dL_law_278 rfl (lv_at hl 3 rfl) ?_
  refine lv_iload_n hx hb dL_law_279 rfl (lv_at hl 0 rfl) ?_
  refine lv_iconst (v := 1) hx hb dL_law_280 (by decide) ?_
  refine lv_iadd hx hb dL_law_281 ?_
  refine g_topi (y := 2) (by decide) ?_
  refine g_sld hx hb hX hbl hbA hS 2 (by decide) (by unfold vp_in; decide) dL_law_282 ?_
  refine g_calli (wr := []) (va_runV (As := [.int (xs 2)]) (rest := [.int (faultF (xs 2))]) ⟨hx, hb, hml, hown, hts⟩ (mf_fault l dC dI H.size q_13 qa_22 kk_22 (xs 2) ) (cwV 1 hts (gG_V kw_458 kw_459 kw_460 kw_5 kw_461) rfl rfl rfl (by decide +kernel) ⟨Nat.le_of_ble_eq_true rfl, Nat.le_of_ble_eq_true rfl⟩) (g_preV (C := RX11) (T := TX11) (N := 53) hP hD hK hS hA hN hZ (q0 := 0) rfl rfl [0] (by decide) rfl [] rfl) rfl rfl hl.1 rfl (lv_room (Nat.le_of_ble_eq_true rfl)) dL_law_283 ⟨Nat.le_of_ble_eq_true rfl, Nat.le_of_ble_eq_true rfl⟩) hP hD hK hS hA [0] [] rfl rfl (by decide) (by decide) (fun r_283 w ty1 H locs hw_283 hP hD _ hS => ?_)
  rcases hw_283 with ⟨hu, hr_283⟩
  cases hu
  have hP : va_P (dC, dI) vwCl [] H := hP
  have hD : va_D A [] := hD
  refine g_topi (y := faultF (xs 2)) hr_283 ?_
  refine lv_icmp_eq (tgt := 800) hx hb dL_law_286 (by decide) (fun c_286 => ?_) (fun c_286 => absurd rfl c_286)
  refine lv_iinc (v := 7) (lv' := [(3, .int 7), (2, .ref q_13), (1, .ref q_0), (0, .ref b)]) hx hb dL_law_800 hl (k := 0) rfl (by decide) (by decide) rfl (fun ls hl => ?_)
  refine lv_goto (tgt := 28) hx hb dL_law_803 (by decide) ?_
  refine lv_iload_n hx hb dL_law_28 rfl (lv_at hl 0 rfl) ?_
  refine lv_aload_n hx hb dL_law_29 rfl (lv_at hl 3 rfl) ?_
  refine va_slen hx hb hX hbl hbA hS dL_law_30 ?_
  refine g_topi (y := 7) rfl ?_
  refine lv_bipush (v := 6) hx hb dL_law_31 (by decide) ?_
  refine lv_isub hx hb dL_law_33 ?_
  refine g_topi (y := 1) (by decide) ?_
  refine lv_icmp_gt (tgt := 806) hx hb dL_law_34 (by decide) (fun c_34_2 => ?_) (fun c_34_2 => absurd c_34_2 (by decide))
  refine lv_iconst (v := 1) hx hb dL_law_806 (by decide) ?_
  refine va_forget (fun q hq => hAI _ (hS.2.2 q hq)) ?_
  refine W.widen (k := 600000) (n := 7302250) (Nat.le_of_ble_eq_true rfl) (Nat.le_of_ble_eq_true rfl) ?_
  exact lw_ret hx hb hr hlocks dL_law_807

set_option maxHeartbeats 1000000 in
set_option maxRecDepth 100000 in
theorem lawc_291 {p : Program} {l : Launch} {e : Env} {s : State} {m : MethodId} {below : List Frame} {meth : Method} {c : Code} {b : Nat} {xs : Nat → Int32} {A : Nat → Prop} {dC : Nat → ClassId} {dI : Nat → Nat → Nat} {aT_9 : Nat} {tb_9 : Nat} {aB_9 : Nat} {sa_9 : Nat} {bb_9 : Nat} {aS_9 : Nat} {ce_9 : Nat} {pl_9 : Nat} {aR_9 : Nat} {aF_9 : Nat} {aX_9 : Nat} {aC_9 : Nat} {ad_9 : Nat → Nat} {cB_9 : ClassId} {cS_9 : ClassId} {cI_9 : ClassId} {cJ_9 : ClassId} {cC_9 : ClassId} {g_9 : Nat → Option Nat} {qa_22 : Nat → Nat} {kk_22 : Nat} {cZ_22 : ClassId} {q_0 : Nat} {q_13 : Nat} {H : Heap} {locs : List Loc} {ls : Array Slot} (hx : p.tables.exec = Jvm.exec) (hb : c.code = code) (hr : meth.sig.returnType = ret) (hlocks : meth.locks = false) (hml : c.maxLocals = 4) (hown : s.vm.findClass RL = some m.cls) (hts : ∀ w ∈ wsG (Cond.initialized RX10), w.before #[Value.ref b] s = true) (hA : ∀ q : Nat, s.heap.size ≤ q → A q) (hAI : ∀ q : Nat, A q → s.heap.size ≤ q) (hbA : ¬ A b) (hN : gN s) (hZ : gZ A s s.heap) (hX : va_X b 7 xs s s.heap) (hbl : b < s.heap.size) (hg_9 : ∀ x, x < 32 → g_9 x = some (ad_9 x)) (hK : va_K (dC, dI) vwCl [(cB_9, .byte), (cS_9, .object RX5), (cI_9, .int), (cJ_9, .long), (cC_9, .object RX1), (cZ_22, .boolean)] s) (hP : va_P (dC, dI) vwCl ([(q_0, .inr (9, [.ref aT_9, .ref aB_9, .ref aS_9, .ref aR_9, .ref aF_9, .ref aC_9, .ref aX_9])), (aT_9, .inr (7, [.ref tb_9, .int 0])), (tb_9, .inl (cB_9, 9000, .inl (fun _ => 0))), (aB_9, .inr (0, [.ref sa_9, .ref bb_9, .int 0])), (sa_9, .inl (cS_9, 32, .inr (.inr (.inr (.inr g_9))))), (aS_9, .inr (6, [.ref ce_9, .ref pl_9, .int 1, .int 0])), (ce_9, .inl (cI_9, 2048, .inl (fun _ => 0))), (pl_9, .inl (cI_9, 128, .inl (fun _ => 0))), (q_13, .inr (10, mdF qa_22 (nI kk_22) 0 0 (-1) 1 0 6 125 (-1) (-1) (-1) 0 0 17 0 (-1) 0 0 0)), (qa_22 1, .inl (cB_9, 9000, .inl (fun _ => 0))), (qa_22 5, .inl (cI_9, 32, .inl (fun _ => 0))), (qa_22 6, .inl (cI_9, 32, .inl (fun _ => 0))), (qa_22 7, .inl (cI_9, 32, .inl (fun _ => 0))), (qa_22 8, .inl (cI_9, 32, .inl (fun _ => 0))), (qa_22 9, .inl (cI_9, 32, .inl (fun _ => 0))), (qa_22 11, .inl (cI_9, 2048, .inl (fun _ => 0))), (qa_22 12, .inl (cI_9, 128, .inl (fun _ => 0)))] ++ famN 32 ad_9 (fun _ => 0) (fun _ => 0) (fun _ => 0) (fun _ => 0) (fun _ => 0) (fun _ => 0)) H) (hD : va_D A ([(q_0, .inr (9, [.ref aT_9, .ref aB_9, .ref aS_9, .ref aR_9, .ref aF_9, .ref aC_9, .ref aX_9])), (aT_9, .inr (7, [.ref tb_9, .int 0])), (tb_9, .inl (cB_9, 9000, .inl (fun _ => 0))), (aB_9, .inr (0, [.ref sa_9, .ref bb_9, .int 0])), (sa_9, .inl (cS_9, 32, .inr (.inr (.inr (.inr g_9))))), (aS_9, .inr (6, [.ref ce_9, .ref pl_9, .int 1, .int 0])), (ce_9, .inl (cI_9, 2048, .inl (fun _ => 0))), (pl_9, .inl (cI_9, 128, .inl (fun _ => 0))), (q_13, .inr (10, mdF qa_22 (nI kk_22) 0 0 (-1) 1 0 6 125 (-1) (-1) (-1) 0 0 17 0 (-1) 0 0 0)), (qa_22 1, .inl (cB_9, 9000, .inl (fun _ => 0))), (qa_22 5, .inl (cI_9, 32, .inl (fun _ => 0))), (qa_22 6, .inl (cI_9, 32, .inl (fun _ => 0))), (qa_22 7, .inl (cI_9, 32, .inl (fun _ => 0))), (qa_22 8, .inl (cI_9, 32, .inl (fun _ => 0))), (qa_22 9, .inl (cI_9, 32, .inl (fun _ => 0))), (qa_22 11, .inl (cI_9, 2048, .inl (fun _ => 0))), (qa_22 12, .inl (cI_9, 128, .inl (fun _ => 0)))] ++ famN 32 ad_9 (fun _ => 0) (fun _ => 0) (fun _ => 0) (fun _ => 0) (fun _ => 0) (fun _ => 0))) (hS : va_S A s.heap H locs) (hl : lv_has ls 4 [(3, .int 1), (2, .ref q_13), (1, .ref q_0), (0, .ref b)]) : W p l e room_1 s m #[Value.ref b] below meth c H locs 95 104445 (lw_Z below #[Value.ref b] s) (F0 m 291 ls []) := by
  refine lv_aload_n hx hb dL_law_291 rfl (lv_at hl 2 rfl) ?_
  refine g_calliP (X := [(q_0, .inr (9, [.ref aT_9, .ref aB_9, .ref aS_9, .ref aR_9, .ref aF_9, .ref aC_9, .ref aX_9])), (aT_9, .inr (7, [.ref tb_9, .int 0])), (tb_9, .inl (cB_9, 9000, .inl (fun _ => 0))), (aB_9, .inr (0, [.ref sa_9, .ref bb_9, .int 0])), (sa_9, .inl (cS_9, 32, .inr (.inr (.inr (.inr g_9))))), (aS_9, .inr (6, [.ref ce_9, .ref pl_9, .int 1, .int 0])), (ce_9, .inl (cI_9, 2048, .inl (fun _ => 0))), (pl_9, .inl (cI_9, 128, .inl (fun _ => 0))), (q_13, .inr (10, mdF qa_22 (nI kk_22) 0 0 (-1) 1 0 6 125 (-1) (-1) (-1) 0 0 17 0 (-1) 0 0 0)), (qa_22 1, .inl (cB_9, 9000, .inl (fun _ => 0))), (qa_22 5, .inl (cI_9, 32, .inl (fun _ => 0))), (qa_22 6, .inl (cI_9, 32, .inl (fun _ => 0))), (qa_22 7, .inl (cI_9, 32, .inl (fun _ => 0))), (qa_22 8, .inl (cI_9, 32, .inl (fun _ => 0))), (qa_22 9, .inl (cI_9, 32, .inl (fun _ => 0))), (qa_22 11, .inl (cI_9, 2048, .inl (fun _ => 0))), (qa_22 12, .inl (cI_9, 128, .inl (fun _ => 0)))]) (wr := [(q_13, .inr (10, mdF qa_22 (nI kk_22) 0 0 (-1) 1 0 6 125 (-1) (-1) (-1) 0 0 17 0 (-1) 0 0 0)), (qa_22 1, .inl (cB_9, 9000, .inl (fun _ => 0))), (qa_22 5, .inl (cI_9, 32, .inl (fun _ => 0))), (qa_22 6, .inl (cI_9, 32, .inl (fun _ => 0))), (qa_22 7, .inl (cI_9, 32, .inl (fun _ => 0))), (qa_22 8, .inl (cI_9, 32, .inl (fun _ => 0))), (qa_22 9, .inl (cI_9, 32, .inl (fun _ => 0))), (qa_22 11, .inl (cI_9, 2048, .inl (fun _ => 0))), (qa_22 12, .inl (cI_9, 128, .inl (fun _ => 0)))]) (va_runV (As := []) (rest := []) ⟨hx, hb, hml, hown, hts⟩ (f_save l dC dI H.size q_0 aT_9 aB_9 aS_9 aR_9 aF_9 aC_9 aX_9 tb_9 sa_9 bb_9 ce_9 pl_9 ad_9 cB_9 cS_9 cI_9 g_9 (hg_9)) (cwV 0 hts (gG_V kw_462 kw_463 kw_464 kw_2 kw_465) rfl rfl rfl (by decide +kernel) ⟨Nat.le_of_ble_eq_true rfl, Nat.le_of_ble_eq_true rfl⟩) (g_preVP (X := [(q_0, .inr (9, [.ref aT_9, .ref aB_9, .ref aS_9, .ref aR_9, .ref aF_9, .ref aC_9, .ref aX_9])), (aT_9, .inr (7, [.ref tb_9, .int 0])), (tb_9, .inl (cB_9, 9000, .inl (fun _ => 0))), (aB_9, .inr (0, [.ref sa_9, .ref bb_9, .int 0])), (sa_9, .inl (cS_9, 32, .inr (.inr (.inr (.inr g_9))))), (aS_9, .inr (6, [.ref ce_9, .ref pl_9, .int 1, .int 0])), (ce_9, .inl (cI_9, 2048, .inl (fun _ => 0))), (pl_9, .inl (cI_9, 128, .inl (fun _ => 0))), (q_13, .inr (10, mdF qa_22 (nI kk_22) 0 0 (-1) 1 0 6 125 (-1) (-1) (-1) 0 0 17 0 (-1) 0 0 0)), (qa_22 1, .inl (cB_9, 9000, .inl (fun _ => 0))), (qa_22 5, .inl (cI_9, 32, .inl (fun _ => 0))), (qa_22 6, .inl (cI_9, 32, .inl (fun _ => 0))), (qa_22 7, .inl (cI_9, 32, .inl (fun _ => 0))), (qa_22 8, .inl (cI_9, 32, .inl (fun _ => 0))), (qa_22 9, .inl (cI_9, 32, .inl (fun _ => 0))), (qa_22 11, .inl (cI_9, 2048, .inl (fun _ => 0))), (qa_22 12, .inl (cI_9, 128, .inl (fun _ => 0)))]) (C := RX10) (T := TX10) (N := 7) hP hD hK hS hA hN hZ (q0 := 0) rfl rfl [0, 1, 2, 3, 4, 5, 6, 7] (by decide) rfl [0, 1, 2] rfl) rfl rfl hl.1 rfl (lv_room (Nat.le_of_ble_eq_true rfl)) dL_law_292 ⟨Nat.le_of_ble_eq_true rfl, Nat.le_of_ble_eq_true rfl⟩) hP hD hK hS hA [0, 1, 2, 3, 4, 5, 6, 7] [8, 9, 10, 11, 12, 13, 14, 15, 16] rfl rfl (by decide) (by decide) (fun r_292 w ty1 H locs hw_292 hJ _ hS => ?_)
  rcases hw_292 with ⟨hu, hr_292⟩
  cases hu
  obtain ⟨hP, hD⟩ := hJ _ [] (List.append_nil _).symm
  have hP : va_P (dC, dI) vwCl [(q_13, .inr (10, mdF qa_22 (nI kk_22) 0 0 (-1) 1 0 6 125 (-1) (-1) (-1) 0 0 17 0 (-1) 0 0 0)), (qa_22 1, .inl (cB_9, 9000, .inl (fun _ => 0))), (qa_22 5, .inl (cI_9, 32, .inl (fun _ => 0))), (qa_22 6, .inl (cI_9, 32, .inl (fun _ => 0))), (qa_22 7, .inl (cI_9, 32, .inl (fun _ => 0))), (qa_22 8, .inl (cI_9, 32, .inl (fun _ => 0))), (qa_22 9, .inl (cI_9, 32, .inl (fun _ => 0))), (qa_22 11, .inl (cI_9, 2048, .inl (fun _ => 0))), (qa_22 12, .inl (cI_9, 128, .inl (fun _ => 0)))] H := hP
  have hD : va_D A [(q_13, .inr (10, mdF qa_22 (nI kk_22) 0 0 (-1) 1 0 6 125 (-1) (-1) (-1) 0 0 17 0 (-1) 0 0 0)), (qa_22 1, .inl (cB_9, 9000, .inl (fun _ => 0))), (qa_22 5, .inl (cI_9, 32, .inl (fun _ => 0))), (qa_22 6, .inl (cI_9, 32, .inl (fun _ => 0))), (qa_22 7, .inl (cI_9, 32, .inl (fun _ => 0))), (qa_22 8, .inl (cI_9, 32, .inl (fun _ => 0))), (qa_22 9, .inl (cI_9, 32, .inl (fun _ => 0))), (qa_22 11, .inl (cI_9, 2048, .inl (fun _ => 0))), (qa_22 12, .inl (cI_9, 128, .inl (fun _ => 0)))] := hD
  refine g_topi (y := 2108) hr_292 ?_
  refine lv_aload_n hx hb dL_law_295 rfl (lv_at hl 1 rfl) ?_
  refine g_calli (wr := []) (va_runV (As := []) (rest := [.int 2108]) ⟨hx, hb, hml, hown, hts⟩ (mf_save l dC dI H.size q_13 qa_22 kk_22 cB_9 cI_9 ) (cwV 0 hts (gG_V kw_506 kw_507 kw_508 kw_5 kw_509) rfl rfl rfl (by decide +kernel) ⟨Nat.le_of_ble_eq_true rfl, Nat.le_of_ble_eq_true rfl⟩) (g_preV (C := RX11) (T := TX11) (N := 53) hP hD hK hS hA hN hZ (q0 := 0) rfl rfl [0, 1, 2, 3, 4, 5, 6, 7, 8] (by decide) rfl [0, 2] rfl) rfl rfl hl.1 rfl (lv_room (Nat.le_of_ble_eq_true rfl)) dL_law_296 ⟨Nat.le_of_ble_eq_true rfl, Nat.le_of_ble_eq_true rfl⟩) hP hD hK hS hA [0, 1, 2, 3, 4, 5, 6, 7, 8] [] rfl rfl (by decide) (by decide) (fun r_296 w ty1 H locs hw_296 hP hD _ hS => ?_)
  rcases hw_296 with ⟨hu, hr_296⟩
  cases hu
  have hP : va_P (dC, dI) vwCl [] H := hP
  have hD : va_D A [] := hD
  refine g_topi (y := 2108) hr_296 ?_
  refine lv_icmp_eq (tgt := 800) hx hb dL_law_299 (by decide) (fun c_299 => ?_) (fun c_299 => absurd c_299 (by decide))
  refine lv_iinc (v := 7) (lv' := [(3, .int 7), (2, .ref q_13), (1, .ref q_0), (0, .ref b)]) hx hb dL_law_800 hl (k := 0) rfl (by decide) (by decide) rfl (fun ls hl => ?_)
  refine lv_goto (tgt := 28) hx hb dL_law_803 (by decide) ?_
  refine lv_iload_n hx hb dL_law_28 rfl (lv_at hl 0 rfl) ?_
  refine lv_aload_n hx hb dL_law_29 rfl (lv_at hl 3 rfl) ?_
  refine va_slen hx hb hX hbl hbA hS dL_law_30 ?_
  refine g_topi (y := 7) rfl ?_
  refine lv_bipush (v := 6) hx hb dL_law_31 (by decide) ?_
  refine lv_isub hx hb dL_law_33 ?_
  refine g_topi (y := 1) (by decide) ?_
  refine lv_icmp_gt (tgt := 806) hx hb dL_law_34 (by decide) (fun c_34_2 => ?_) (fun c_34_2 => absurd c_34_2 (by decide))
  refine lv_iconst (v := 1) hx hb dL_law_806 (by decide) ?_
  refine va_forget (fun q hq => hAI _ (hS.2.2 q hq)) ?_
  refine W.widen (k := 600000) (n := 7302250) (Nat.le_of_ble_eq_true rfl) (Nat.le_of_ble_eq_true rfl) ?_
  exact lw_ret hx hb hr hlocks dL_law_807

set_option maxHeartbeats 1000000 in
set_option maxRecDepth 100000 in
theorem lawc_304 {p : Program} {l : Launch} {e : Env} {s : State} {m : MethodId} {below : List Frame} {meth : Method} {c : Code} {b : Nat} {xs : Nat → Int32} {A : Nat → Prop} {dC : Nat → ClassId} {dI : Nat → Nat → Nat} {aT_9 : Nat} {tb_9 : Nat} {aB_9 : Nat} {aS_9 : Nat} {aR_9 : Nat} {aF_9 : Nat} {aX_9 : Nat} {aC_9 : Nat} {cB_9 : ClassId} {cS_9 : ClassId} {cI_9 : ClassId} {cJ_9 : ClassId} {cC_9 : ClassId} {qa_22 : Nat → Nat} {kk_22 : Nat} {cZ_22 : ClassId} {q_0 : Nat} {q_13 : Nat} {H : Heap} {locs : List Loc} {ls : Array Slot} (hx : p.tables.exec = Jvm.exec) (hb : c.code = code) (hr : meth.sig.returnType = ret) (hlocks : meth.locks = false) (hml : c.maxLocals = 4) (hown : s.vm.findClass RL = some m.cls) (hts : ∀ w ∈ wsG (Cond.initialized RX10), w.before #[Value.ref b] s = true) (hA : ∀ q : Nat, s.heap.size ≤ q → A q) (hAI : ∀ q : Nat, A q → s.heap.size ≤ q) (hbA : ¬ A b) (hN : gN s) (hZ : gZ A s s.heap) (hX : va_X b 7 xs s s.heap) (hbl : b < s.heap.size) (hK : va_K (dC, dI) vwCl [(cB_9, .byte), (cS_9, .object RX5), (cI_9, .int), (cJ_9, .long), (cC_9, .object RX1), (cZ_22, .boolean)] s) (hP : va_P (dC, dI) vwCl [(q_0, .inr (9, [.ref aT_9, .ref aB_9, .ref aS_9, .ref aR_9, .ref aF_9, .ref aC_9, .ref aX_9])), (aT_9, .inr (7, [.ref tb_9, .int 0])), (tb_9, .inl (cB_9, 9000, .inl (fun _ => 0))), (q_13, .inr (10, mdF qa_22 (nI kk_22) 0 0 (-1) 1 0 6 125 (-1) (-1) (-1) 0 0 17 0 (-1) 0 0 0)), (qa_22 1, .inl (cB_9, 9000, .inl (fun _ => 0)))] H) (hD : va_D A [(q_0, .inr (9, [.ref aT_9, .ref aB_9, .ref aS_9, .ref aR_9, .ref aF_9, .ref aC_9, .ref aX_9])), (aT_9, .inr (7, [.ref tb_9, .int 0])), (tb_9, .inl (cB_9, 9000, .inl (fun _ => 0))), (q_13, .inr (10, mdF qa_22 (nI kk_22) 0 0 (-1) 1 0 6 125 (-1) (-1) (-1) 0 0 17 0 (-1) 0 0 0)), (qa_22 1, .inl (cB_9, 9000, .inl (fun _ => 0)))]) (hS : va_S A s.heap H locs) (hl : lv_has ls 4 [(3, .int 1), (2, .ref q_13), (1, .ref q_0), (0, .ref b)]) : W p l e room_1 s m #[Value.ref b] below meth c H locs 95 104445 (lw_Z below #[Value.ref b] s) (F0 m 304 ls []) := by
  refine lv_aload_n hx hb dL_law_304 rfl (lv_at hl 2 rfl) ?_
  refine lv_aload_n hx hb dL_law_305 rfl (lv_at hl 3 rfl) ?_
  refine lv_iload_n hx hb dL_law_306 rfl (lv_at hl 0 rfl) ?_
  refine lv_iconst (v := 1) hx hb dL_law_307 (by decide) ?_
  refine lv_iadd hx hb dL_law_308 ?_
  refine g_topi (y := 2) (by decide) ?_
  refine g_sld hx hb hX hbl hbA hS 2 (by decide) (by unfold vp_in; decide) dL_law_309 ?_
  refine g_calli (wr := [(q_13, .inr (10, mdF qa_22 (nI kk_22) 0 0 (-1) 1 0 6 125 (-1) (-1) (-1) 0 0 17 0 (-1) 0 0 0)), (qa_22 1, .inl (cB_9, 9000, .inl (fun _ => 0)))]) (va_runV (As := [.int (xs 2)]) (rest := []) ⟨hx, hb, hml, hown, hts⟩ (f_tape l dC dI H.size q_0 aT_9 aB_9 aS_9 aR_9 aF_9 aC_9 aX_9 tb_9 cB_9 (xs 2) ) (cwV 1 hts (gG_V kw_522 kw_523 kw_524 kw_2 kw_525) rfl rfl rfl (by decide +kernel) ⟨Nat.le_of_ble_eq_true rfl, Nat.le_of_ble_eq_true rfl⟩) (g_preV (C := RX10) (T := TX10) (N := 7) hP hD hK hS hA hN hZ (q0 := 0) rfl rfl [0, 1, 2] (by decide) rfl [0] rfl) rfl rfl hl.1 rfl (lv_room (Nat.le_of_ble_eq_true rfl)) dL_law_310 ⟨Nat.le_of_ble_eq_true rfl, Nat.le_of_ble_eq_true rfl⟩) hP hD hK hS hA [0, 1, 2] [3, 4] rfl rfl (by decide) (by decide) (fun r_310 w ty1 H locs hw_310 hP hD _ hS => ?_)
  rcases hw_310 with ⟨hu, hr_310⟩
  cases hu
  have hP : va_P (dC, dI) vwCl [(q_13, .inr (10, mdF qa_22 (nI kk_22) 0 0 (-1) 1 0 6 125 (-1) (-1) (-1) 0 0 17 0 (-1) 0 0 0)), (qa_22 1, .inl (cB_9, 9000, .inl (fun _ => 0)))] H := hP
  have hD : va_D A [(q_13, .inr (10, mdF qa_22 (nI kk_22) 0 0 (-1) 1 0 6 125 (-1) (-1) (-1) 0 0 17 0 (-1) 0 0 0)), (qa_22 1, .inl (cB_9, 9000, .inl (fun _ => 0)))] := hD
  refine g_topi (y := (-1)) hr_310 ?_
  refine lv_aload_n hx hb dL_law_313 rfl (lv_at hl 1 rfl) ?_
  refine lv_aload_n hx hb dL_law_314 rfl (lv_at hl 3 rfl) ?_
  refine lv_iload_n hx hb dL_law_315 rfl (lv_at hl 0 rfl) ?_
  refine lv_iconst (v := 1) hx hb dL_law_316 (by decide) ?_
  refine lv_iadd hx hb dL_law_317 ?_
  refine g_topi (y := 2) (by decide) ?_
  refine g_sld hx hb hX hbl hbA hS 2 (by decide) (by unfold vp_in; decide) dL_law_318 ?_
  refine g_calli (wr := []) (va_runV (As := [.int (xs 2)]) (rest := [.int (-1)]) ⟨hx, hb, hml, hown, hts⟩ (mf_tape l dC dI H.size q_13 qa_22 kk_22 cB_9 (xs 2) ) (cwV 1 hts (gG_V kw_527 kw_528 kw_529 kw_5 kw_530) rfl rfl rfl (by decide +kernel) ⟨Nat.le_of_ble_eq_true rfl, Nat.le_of_ble_eq_true rfl⟩) (g_preV (C := RX11) (T := TX11) (N := 53) hP hD hK hS hA hN hZ (q0 := 0) rfl rfl [0, 1] (by decide) rfl [0] rfl) rfl rfl hl.1 rfl (lv_room (Nat.le_of_ble_eq_true rfl)) dL_law_319 ⟨Nat.le_of_ble_eq_true rfl, Nat.le_of_ble_eq_true rfl⟩) hP hD hK hS hA [0, 1] [] rfl rfl (by decide) (by decide) (fun r_319 w ty1 H locs hw_319 hP hD _ hS => ?_)
  rcases hw_319 with ⟨hu, hr_319⟩
  cases hu
  have hP : va_P (dC, dI) vwCl [] H := hP
  have hD : va_D A [] := hD
  refine g_topi (y := (-1)) hr_319 ?_
  refine lv_icmp_eq (tgt := 800) hx hb dL_law_322 (by decide) (fun c_322 => ?_) (fun c_322 => absurd c_322 (by decide))
  refine lv_iinc (v := 7) (lv' := [(3, .int 7), (2, .ref q_13), (1, .ref q_0), (0, .ref b)]) hx hb dL_law_800 hl (k := 0) rfl (by decide) (by decide) rfl (fun ls hl => ?_)
  refine lv_goto (tgt := 28) hx hb dL_law_803 (by decide) ?_
  refine lv_iload_n hx hb dL_law_28 rfl (lv_at hl 0 rfl) ?_
  refine lv_aload_n hx hb dL_law_29 rfl (lv_at hl 3 rfl) ?_
  refine va_slen hx hb hX hbl hbA hS dL_law_30 ?_
  refine g_topi (y := 7) rfl ?_
  refine lv_bipush (v := 6) hx hb dL_law_31 (by decide) ?_
  refine lv_isub hx hb dL_law_33 ?_
  refine g_topi (y := 1) (by decide) ?_
  refine lv_icmp_gt (tgt := 806) hx hb dL_law_34 (by decide) (fun c_34_2 => ?_) (fun c_34_2 => absurd c_34_2 (by decide))
  refine lv_iconst (v := 1) hx hb dL_law_806 (by decide) ?_
  refine va_forget (fun q hq => hAI _ (hS.2.2 q hq)) ?_
  refine W.widen (k := 600000) (n := 7302250) (Nat.le_of_ble_eq_true rfl) (Nat.le_of_ble_eq_true rfl) ?_
  exact lw_ret hx hb hr hlocks dL_law_807

set_option maxHeartbeats 1000000 in
set_option maxRecDepth 100000 in
theorem lawc_327 {p : Program} {l : Launch} {e : Env} {s : State} {m : MethodId} {below : List Frame} {meth : Method} {c : Code} {b : Nat} {xs : Nat → Int32} {A : Nat → Prop} {dC : Nat → ClassId} {dI : Nat → Nat → Nat} {aT_9 : Nat} {aB_9 : Nat} {sa_9 : Nat} {bb_9 : Nat} {aS_9 : Nat} {aR_9 : Nat} {aF_9 : Nat} {aX_9 : Nat} {aC_9 : Nat} {ad_9 : Nat → Nat} {cB_9 : ClassId} {cS_9 : ClassId} {cI_9 : ClassId} {cJ_9 : ClassId} {cC_9 : ClassId} {g_9 : Nat → Option Nat} {qa_22 : Nat → Nat} {kk_22 : Nat} {cZ_22 : ClassId} {q_0 : Nat} {q_13 : Nat} {H : Heap} {locs : List Loc} {ls : Array Slot} (hx : p.tables.exec = Jvm.exec) (hb : c.code = code) (hr : meth.sig.returnType = ret) (hlocks : meth.locks = false) (hml : c.maxLocals = 4) (hown : s.vm.findClass RL = some m.cls) (hts : ∀ w ∈ wsG (Cond.initialized RX10), w.before #[Value.ref b] s = true) (hA : ∀ q : Nat, s.heap.size ≤ q → A q) (hAI : ∀ q : Nat, A q → s.heap.size ≤ q) (hbA : ¬ A b) (hN : gN s) (hZ : gZ A s s.heap) (hX : va_X b 7 xs s s.heap) (hbl : b < s.heap.size) (hg_9 : ∀ x, x < 32 → g_9 x = some (ad_9 x)) (hK : va_K (dC, dI) vwCl [(cB_9, .byte), (cS_9, .object RX5), (cI_9, .int), (cJ_9, .long), (cC_9, .object RX1), (cZ_22, .boolean)] s) (hP : va_P (dC, dI) vwCl ([(q_0, .inr (9, [.ref aT_9, .ref aB_9, .ref aS_9, .ref aR_9, .ref aF_9, .ref aC_9, .ref aX_9])), (aB_9, .inr (0, [.ref sa_9, .ref bb_9, .int 0])), (sa_9, .inl (cS_9, 32, .inr (.inr (.inr (.inr g_9))))), (bb_9, .inl (cB_9, 4000, .inl (fun _ => 0))), (q_13, .inr (10, mdF qa_22 (nI kk_22) 0 0 (-1) 1 0 6 125 (-1) (-1) (-1) 0 0 17 0 (-1) 0 0 0)), (qa_22 5, .inl (cI_9, 32, .inl (fun _ => 0))), (qa_22 6, .inl (cI_9, 32, .inl (fun _ => 0))), (qa_22 7, .inl (cI_9, 32, .inl (fun _ => 0))), (qa_22 8, .inl (cI_9, 32, .inl (fun _ => 0))), (qa_22 9, .inl (cI_9, 32, .inl (fun _ => 0))), (qa_22 10, .inl (cB_9, 64000, .inl (fun _ => 0)))] ++ famN 32 ad_9 (fun _ => 0) (fun _ => 0) (fun _ => 0) (fun _ => 0) (fun _ => 0) (fun _ => 0)) H) (hD : va_D A ([(q_0, .inr (9, [.ref aT_9, .ref aB_9, .ref aS_9, .ref aR_9, .ref aF_9, .ref aC_9, .ref aX_9])), (aB_9, .inr (0, [.ref sa_9, .ref bb_9, .int 0])), (sa_9, .inl (cS_9, 32, .inr (.inr (.inr (.inr g_9))))), (bb_9, .inl (cB_9, 4000, .inl (fun _ => 0))), (q_13, .inr (10, mdF qa_22 (nI kk_22) 0 0 (-1) 1 0 6 125 (-1) (-1) (-1) 0 0 17 0 (-1) 0 0 0)), (qa_22 5, .inl (cI_9, 32, .inl (fun _ => 0))), (qa_22 6, .inl (cI_9, 32, .inl (fun _ => 0))), (qa_22 7, .inl (cI_9, 32, .inl (fun _ => 0))), (qa_22 8, .inl (cI_9, 32, .inl (fun _ => 0))), (qa_22 9, .inl (cI_9, 32, .inl (fun _ => 0))), (qa_22 10, .inl (cB_9, 64000, .inl (fun _ => 0)))] ++ famN 32 ad_9 (fun _ => 0) (fun _ => 0) (fun _ => 0) (fun _ => 0) (fun _ => 0) (fun _ => 0))) (hS : va_S A s.heap H locs) (hl : lv_has ls 4 [(3, .int 1), (2, .ref q_13), (1, .ref q_0), (0, .ref b)]) : W p l e room_1 s m #[Value.ref b] below meth c H locs 95 104445 (lw_Z below #[Value.ref b] s) (F0 m 327 ls []) := by
  refine lv_aload_n hx hb dL_law_327 rfl (lv_at hl 2 rfl) ?_
  refine lv_aload_n hx hb dL_law_328 rfl (lv_at hl 3 rfl) ?_
  refine lv_iload_n hx hb dL_law_329 rfl (lv_at hl 0 rfl) ?_
  refine lv_iconst (v := 1) hx hb dL_law_330 (by decide) ?_
  refine lv_iadd hx hb dL_law_331 ?_
  refine g_topi (y := 2) (by decide) ?_
  refine g_sld hx hb hX hbl hbA hS 2 (by decide) (by unfold vp_in; decide) dL_law_332 ?_
  refine lv_aload_n hx hb dL_law_333 rfl (lv_at hl 3 rfl) ?_
  refine lv_iload_n hx hb dL_law_334 rfl (lv_at hl 0 rfl) ?_
  refine lv_iconst (v := 2) hx hb dL_law_335 (by decide) ?_
  refine lv_iadd hx hb dL_law_336 ?_
  refine g_topi (y := 3) (by decide) ?_
  refine g_sld hx hb hX hbl hbA hS 3 (by decide) (by unfold vp_in; decide) dL_law_337 ?_
  refine lv_aload_n hx hb dL_law_338 rfl (lv_at hl 3 rfl) ?_
  refine lv_iload_n hx hb dL_law_339 rfl (lv_at hl 0 rfl) ?_
  refine lv_iconst (v := 3) hx hb dL_law_340 (by decide) ?_
  refine lv_iadd hx hb dL_law_341 ?_
  refine g_topi (y := 4) (by decide) ?_
  refine g_sld hx hb hX hbl hbA hS 4 (by decide) (by unfold vp_in; decide) dL_law_342 ?_
  refine lv_aload_n hx hb dL_law_343 rfl (lv_at hl 3 rfl) ?_
  refine lv_iload_n hx hb dL_law_344 rfl (lv_at hl 0 rfl) ?_
  refine lv_iconst (v := 4) hx hb dL_law_345 (by decide) ?_
  refine lv_iadd hx hb dL_law_346 ?_
  refine g_topi (y := 5) (by decide) ?_
  refine g_sld hx hb hX hbl hbA hS 5 (by decide) (by unfold vp_in; decide) dL_law_347 ?_
  refine g_calliP (X := [(q_0, .inr (9, [.ref aT_9, .ref aB_9, .ref aS_9, .ref aR_9, .ref aF_9, .ref aC_9, .ref aX_9])), (aB_9, .inr (0, [.ref sa_9, .ref bb_9, .int 0])), (sa_9, .inl (cS_9, 32, .inr (.inr (.inr (.inr g_9))))), (bb_9, .inl (cB_9, 4000, .inl (fun _ => 0))), (q_13, .inr (10, mdF qa_22 (nI kk_22) 0 0 (-1) 1 0 6 125 (-1) (-1) (-1) 0 0 17 0 (-1) 0 0 0)), (qa_22 5, .inl (cI_9, 32, .inl (fun _ => 0))), (qa_22 6, .inl (cI_9, 32, .inl (fun _ => 0))), (qa_22 7, .inl (cI_9, 32, .inl (fun _ => 0))), (qa_22 8, .inl (cI_9, 32, .inl (fun _ => 0))), (qa_22 9, .inl (cI_9, 32, .inl (fun _ => 0))), (qa_22 10, .inl (cB_9, 64000, .inl (fun _ => 0)))]) (wr := [(q_13, .inr (10, mdF qa_22 (nI kk_22) 0 0 (-1) 1 0 6 125 (-1) (-1) (-1) 0 0 17 0 (-1) 0 0 0)), (qa_22 5, .inl (cI_9, 32, .inl (fun _ => 0))), (qa_22 6, .inl (cI_9, 32, .inl (fun _ => 0))), (qa_22 7, .inl (cI_9, 32, .inl (fun _ => 0))), (qa_22 8, .inl (cI_9, 32, .inl (fun _ => 0))), (qa_22 9, .inl (cI_9, 32, .inl (fun _ => 0))), (qa_22 10, .inl (cB_9, 64000, .inl (fun _ => 0)))]) (va_runV (As := [.int (xs 2), .int (xs 3), .int (xs 4), .int (xs 5)]) (rest := []) ⟨hx, hb, hml, hown, hts⟩ (f_sample l dC dI H.size q_0 aT_9 aB_9 aS_9 aR_9 aF_9 aC_9 aX_9 sa_9 bb_9 ad_9 cS_9 cB_9 g_9 (xs 2) (xs 3) (xs 4) (xs 5) (hg_9)) (cwV 4 hts (gG_V kw_531 kw_532 kw_533 kw_2 kw_534) rfl rfl rfl (by decide +kernel) ⟨Nat.le_of_ble_eq_true rfl, Nat.le_of_ble_eq_true rfl⟩) (g_preVP (X := [(q_0, .inr (9, [.ref aT_9, .ref aB_9, .ref aS_9, .ref aR_9, .ref aF_9, .ref aC_9, .ref aX_9])), (aB_9, .inr (0, [.ref sa_9, .ref bb_9, .int 0])), (sa_9, .inl (cS_9, 32, .inr (.inr (.inr (.inr g_9))))), (bb_9, .inl (cB_9, 4000, .inl (fun _ => 0))), (q_13, .inr (10, mdF qa_22 (nI kk_22) 0 0 (-1) 1 0 6 125 (-1) (-1) (-1) 0 0 17 0 (-1) 0 0 0)), (qa_22 5, .inl (cI_9, 32, .inl (fun _ => 0))), (qa_22 6, .inl (cI_9, 32, .inl (fun _ => 0))), (qa_22 7, .inl (cI_9, 32, .inl (fun _ => 0))), (qa_22 8, .inl (cI_9, 32, .inl (fun _ => 0))), (qa_22 9, .inl (cI_9, 32, .inl (fun _ => 0))), (qa_22 10, .inl (cB_9, 64000, .inl (fun _ => 0)))]) (C := RX10) (T := TX10) (N := 7) hP hD hK hS hA hN hZ (q0 := 0) rfl rfl [0, 1, 2, 3] (by decide) rfl [1, 0] rfl) rfl rfl hl.1 rfl (lv_room (Nat.le_of_ble_eq_true rfl)) dL_law_348 ⟨Nat.le_of_ble_eq_true rfl, Nat.le_of_ble_eq_true rfl⟩) hP hD hK hS hA [0, 1, 2, 3] [4, 5, 6, 7, 8, 9, 10] rfl rfl (by decide) (by decide) (fun r_348 w ty1 H locs hw_348 hJ _ hS => ?_)
  rcases hw_348 with ⟨hu, hr_348⟩
  cases hu
  obtain ⟨hP, hD⟩ := hJ _ [] (List.append_nil _).symm
  have hP : va_P (dC, dI) vwCl [(q_13, .inr (10, mdF qa_22 (nI kk_22) 0 0 (-1) 1 0 6 125 (-1) (-1) (-1) 0 0 17 0 (-1) 0 0 0)), (qa_22 5, .inl (cI_9, 32, .inl (fun _ => 0))), (qa_22 6, .inl (cI_9, 32, .inl (fun _ => 0))), (qa_22 7, .inl (cI_9, 32, .inl (fun _ => 0))), (qa_22 8, .inl (cI_9, 32, .inl (fun _ => 0))), (qa_22 9, .inl (cI_9, 32, .inl (fun _ => 0))), (qa_22 10, .inl (cB_9, 64000, .inl (fun _ => 0)))] H := hP
  have hD : va_D A [(q_13, .inr (10, mdF qa_22 (nI kk_22) 0 0 (-1) 1 0 6 125 (-1) (-1) (-1) 0 0 17 0 (-1) 0 0 0)), (qa_22 5, .inl (cI_9, 32, .inl (fun _ => 0))), (qa_22 6, .inl (cI_9, 32, .inl (fun _ => 0))), (qa_22 7, .inl (cI_9, 32, .inl (fun _ => 0))), (qa_22 8, .inl (cI_9, 32, .inl (fun _ => 0))), (qa_22 9, .inl (cI_9, 32, .inl (fun _ => 0))), (qa_22 10, .inl (cB_9, 64000, .inl (fun _ => 0)))] := hD
  refine g_topi (y := bF (sampP (xs 2) (xs 3) (xs 4) (xs 5))) hr_348 ?_
  refine lv_aload_n hx hb dL_law_351 rfl (lv_at hl 1 rfl) ?_
  refine lv_aload_n hx hb dL_law_352 rfl (lv_at hl 3 rfl) ?_
  refine lv_iload_n hx hb dL_law_353 rfl (lv_at hl 0 rfl) ?_
  refine lv_iconst (v := 1) hx hb dL_law_354 (by decide) ?_
  refine lv_iadd hx hb dL_law_355 ?_
  refine g_topi (y := 2) (by decide) ?_
  refine g_sld hx hb hX hbl hbA hS 2 (by decide) (by unfold vp_in; decide) dL_law_356 ?_
  refine lv_aload_n hx hb dL_law_357 rfl (lv_at hl 3 rfl) ?_
  refine lv_iload_n hx hb dL_law_358 rfl (lv_at hl 0 rfl) ?_
  refine lv_iconst (v := 2) hx hb dL_law_359 (by decide) ?_
  refine lv_iadd hx hb dL_law_360 ?_
  refine g_topi (y := 3) (by decide) ?_
  refine g_sld hx hb hX hbl hbA hS 3 (by decide) (by unfold vp_in; decide) dL_law_361 ?_
  refine lv_aload_n hx hb dL_law_362 rfl (lv_at hl 3 rfl) ?_
  refine lv_iload_n hx hb dL_law_363 rfl (lv_at hl 0 rfl) ?_
  refine lv_iconst (v := 3) hx hb dL_law_364 (by decide) ?_
  refine lv_iadd hx hb dL_law_365 ?_
  refine g_topi (y := 4) (by decide) ?_
  refine g_sld hx hb hX hbl hbA hS 4 (by decide) (by unfold vp_in; decide) dL_law_366 ?_
  refine lv_aload_n hx hb dL_law_367 rfl (lv_at hl 3 rfl) ?_
  refine lv_iload_n hx hb dL_law_368 rfl (lv_at hl 0 rfl) ?_
  refine lv_iconst (v := 4) hx hb dL_law_369 (by decide) ?_
  refine lv_iadd hx hb dL_law_370 ?_
  refine g_topi (y := 5) (by decide) ?_
  refine g_sld hx hb hX hbl hbA hS 5 (by decide) (by unfold vp_in; decide) dL_law_371 ?_
  refine g_calli (wr := []) (va_runV (As := [.int (xs 2), .int (xs 3), .int (xs 4), .int (xs 5)]) (rest := [.int (bF (sampP (xs 2) (xs 3) (xs 4) (xs 5)))]) ⟨hx, hb, hml, hown, hts⟩ (mf_sample l dC dI H.size q_13 qa_22 kk_22 cI_9 cB_9 (xs 2) (xs 3) (xs 4) (xs 5) ) (cwV 4 hts (gG_V kw_538 kw_539 kw_540 kw_5 kw_541) rfl rfl rfl (by decide +kernel) ⟨Nat.le_of_ble_eq_true rfl, Nat.le_of_ble_eq_true rfl⟩) (g_preV (C := RX11) (T := TX11) (N := 53) hP hD hK hS hA hN hZ (q0 := 0) rfl rfl [0, 1, 2, 3, 4, 5, 6] (by decide) rfl [2, 0] rfl) rfl rfl hl.1 rfl (lv_room (Nat.le_of_ble_eq_true rfl)) dL_law_372 ⟨Nat.le_of_ble_eq_true rfl, Nat.le_of_ble_eq_true rfl⟩) hP hD hK hS hA [0, 1, 2, 3, 4, 5, 6] [] rfl rfl (by decide) (by decide) (fun r_372 w ty1 H locs hw_372 hP hD _ hS => ?_)
  rcases hw_372 with ⟨hu, hr_372⟩
  cases hu
  have hP : va_P (dC, dI) vwCl [] H := hP
  have hD : va_D A [] := hD
  refine g_topi (y := bF (sampP (xs 2) (xs 3) (xs 4) (xs 5))) hr_372 ?_
  refine lv_icmp_eq (tgt := 800) hx hb dL_law_375 (by decide) (fun c_375 => ?_) (fun c_375 => absurd rfl c_375)
  refine lv_iinc (v := 7) (lv' := [(3, .int 7), (2, .ref q_13), (1, .ref q_0), (0, .ref b)]) hx hb dL_law_800 hl (k := 0) rfl (by decide) (by decide) rfl (fun ls hl => ?_)
  refine lv_goto (tgt := 28) hx hb dL_law_803 (by decide) ?_
  refine lv_iload_n hx hb dL_law_28 rfl (lv_at hl 0 rfl) ?_
  refine lv_aload_n hx hb dL_law_29 rfl (lv_at hl 3 rfl) ?_
  refine va_slen hx hb hX hbl hbA hS dL_law_30 ?_
  refine g_topi (y := 7) rfl ?_
  refine lv_bipush (v := 6) hx hb dL_law_31 (by decide) ?_
  refine lv_isub hx hb dL_law_33 ?_
  refine g_topi (y := 1) (by decide) ?_
  refine lv_icmp_gt (tgt := 806) hx hb dL_law_34 (by decide) (fun c_34_2 => ?_) (fun c_34_2 => absurd c_34_2 (by decide))
  refine lv_iconst (v := 1) hx hb dL_law_806 (by decide) ?_
  refine va_forget (fun q hq => hAI _ (hS.2.2 q hq)) ?_
  refine W.widen (k := 600000) (n := 7302250) (Nat.le_of_ble_eq_true rfl) (Nat.le_of_ble_eq_true rfl) ?_
  exact lw_ret hx hb hr hlocks dL_law_807

set_option maxHeartbeats 1000000 in
set_option maxRecDepth 100000 in
theorem lawc_380 {p : Program} {l : Launch} {e : Env} {s : State} {m : MethodId} {below : List Frame} {meth : Method} {c : Code} {b : Nat} {xs : Nat → Int32} {A : Nat → Prop} {dC : Nat → ClassId} {dI : Nat → Nat → Nat} {aT_9 : Nat} {aB_9 : Nat} {sa_9 : Nat} {bb_9 : Nat} {aS_9 : Nat} {aR_9 : Nat} {aF_9 : Nat} {aX_9 : Nat} {aC_9 : Nat} {ad_9 : Nat → Nat} {cB_9 : ClassId} {cS_9 : ClassId} {cI_9 : ClassId} {cJ_9 : ClassId} {cC_9 : ClassId} {g_9 : Nat → Option Nat} {qa_22 : Nat → Nat} {kk_22 : Nat} {cZ_22 : ClassId} {q_0 : Nat} {q_13 : Nat} {H : Heap} {locs : List Loc} {ls : Array Slot} (hx : p.tables.exec = Jvm.exec) (hb : c.code = code) (hr : meth.sig.returnType = ret) (hlocks : meth.locks = false) (hml : c.maxLocals = 4) (hown : s.vm.findClass RL = some m.cls) (hts : ∀ w ∈ wsG (Cond.initialized RX10), w.before #[Value.ref b] s = true) (hA : ∀ q : Nat, s.heap.size ≤ q → A q) (hAI : ∀ q : Nat, A q → s.heap.size ≤ q) (hbA : ¬ A b) (hN : gN s) (hZ : gZ A s s.heap) (hX : va_X b 7 xs s s.heap) (hbl : b < s.heap.size) (hg_9 : ∀ x, x < 32 → g_9 x = some (ad_9 x)) (hK : va_K (dC, dI) vwCl [(cB_9, .byte), (cS_9, .object RX5), (cI_9, .int), (cJ_9, .long), (cC_9, .object RX1), (cZ_22, .boolean)] s) (hP : va_P (dC, dI) vwCl ([(q_0, .inr (9, [.ref aT_9, .ref aB_9, .ref aS_9, .ref aR_9, .ref aF_9, .ref aC_9, .ref aX_9])), (aB_9, .inr (0, [.ref sa_9, .ref bb_9, .int 0])), (sa_9, .inl (cS_9, 32, .inr (.inr (.inr (.inr g_9))))), (bb_9, .inl (cB_9, 4000, .inl (fun _ => 0))), (q_13, .inr (10, mdF qa_22 (nI kk_22) 0 0 (-1) 1 0 6 125 (-1) (-1) (-1) 0 0 17 0 (-1) 0 0 0)), (qa_22 5, .inl (cI_9, 32, .inl (fun _ => 0))), (qa_22 8, .inl (cI_9, 32, .inl (fun _ => 0))), (qa_22 9, .inl (cI_9, 32, .inl (fun _ => 0)))] ++ famN 32 ad_9 (fun _ => 0) (fun _ => 0) (fun _ => 0) (fun _ => 0) (fun _ => 0) (fun _ => 0)) H) (hD : va_D A ([(q_0, .inr (9, [.ref aT_9, .ref aB_9, .ref aS_9, .ref aR_9, .ref aF_9, .ref aC_9, .ref aX_9])), (aB_9, .inr (0, [.ref sa_9, .ref bb_9, .int 0])), (sa_9, .inl (cS_9, 32, .inr (.inr (.inr (.inr g_9))))), (bb_9, .inl (cB_9, 4000, .inl (fun _ => 0))), (q_13, .inr (10, mdF qa_22 (nI kk_22) 0 0 (-1) 1 0 6 125 (-1) (-1) (-1) 0 0 17 0 (-1) 0 0 0)), (qa_22 5, .inl (cI_9, 32, .inl (fun _ => 0))), (qa_22 8, .inl (cI_9, 32, .inl (fun _ => 0))), (qa_22 9, .inl (cI_9, 32, .inl (fun _ => 0)))] ++ famN 32 ad_9 (fun _ => 0) (fun _ => 0) (fun _ => 0) (fun _ => 0) (fun _ => 0) (fun _ => 0))) (hS : va_S A s.heap H locs) (hl : lv_has ls 4 [(3, .int 1), (2, .ref q_13), (1, .ref q_0), (0, .ref b)]) : W p l e room_1 s m #[Value.ref b] below meth c H locs 95 104445 (lw_Z below #[Value.ref b] s) (F0 m 380 ls []) := by
  refine lv_aload_n hx hb dL_law_380 rfl (lv_at hl 2 rfl) ?_
  refine lv_aload_n hx hb dL_law_381 rfl (lv_at hl 3 rfl) ?_
  refine lv_iload_n hx hb dL_law_382 rfl (lv_at hl 0 rfl) ?_
  refine lv_iconst (v := 1) hx hb dL_law_383 (by decide) ?_
  refine lv_iadd hx hb dL_law_384 ?_
  refine g_topi (y := 2) (by decide) ?_
  refine g_sld hx hb hX hbl hbA hS 2 (by decide) (by unfold vp_in; decide) dL_law_385 ?_
  refine lv_aload_n hx hb dL_law_386 rfl (lv_at hl 3 rfl) ?_
  refine lv_iload_n hx hb dL_law_387 rfl (lv_at hl 0 rfl) ?_
  refine lv_iconst (v := 2) hx hb dL_law_388 (by decide) ?_
  refine lv_iadd hx hb dL_law_389 ?_
  refine g_topi (y := 3) (by decide) ?_
  refine g_sld hx hb hX hbl hbA hS 3 (by decide) (by unfold vp_in; decide) dL_law_390 ?_
  refine lv_aload_n hx hb dL_law_391 rfl (lv_at hl 3 rfl) ?_
  refine lv_iload_n hx hb dL_law_392 rfl (lv_at hl 0 rfl) ?_
  refine lv_iconst (v := 3) hx hb dL_law_393 (by decide) ?_
  refine lv_iadd hx hb dL_law_394 ?_
  refine g_topi (y := 4) (by decide) ?_
  refine g_sld hx hb hX hbl hbA hS 4 (by decide) (by unfold vp_in; decide) dL_law_395 ?_
  refine g_calliP (X := [(q_0, .inr (9, [.ref aT_9, .ref aB_9, .ref aS_9, .ref aR_9, .ref aF_9, .ref aC_9, .ref aX_9])), (aB_9, .inr (0, [.ref sa_9, .ref bb_9, .int 0])), (sa_9, .inl (cS_9, 32, .inr (.inr (.inr (.inr g_9))))), (bb_9, .inl (cB_9, 4000, .inl (fun _ => 0))), (q_13, .inr (10, mdF qa_22 (nI kk_22) 0 0 (-1) 1 0 6 125 (-1) (-1) (-1) 0 0 17 0 (-1) 0 0 0)), (qa_22 5, .inl (cI_9, 32, .inl (fun _ => 0))), (qa_22 8, .inl (cI_9, 32, .inl (fun _ => 0))), (qa_22 9, .inl (cI_9, 32, .inl (fun _ => 0)))]) (wr := [(q_13, .inr (10, mdF qa_22 (nI kk_22) 0 0 (-1) 1 0 6 125 (-1) (-1) (-1) 0 0 17 0 (-1) 0 0 0)), (qa_22 5, .inl (cI_9, 32, .inl (fun _ => 0))), (qa_22 8, .inl (cI_9, 32, .inl (fun _ => 0))), (qa_22 9, .inl (cI_9, 32, .inl (fun _ => 0)))]) (va_runV (As := [.int (xs 2), .int (xs 3), .int (xs 4)]) (rest := []) ⟨hx, hb, hml, hown, hts⟩ (f_loop l dC dI H.size q_0 aT_9 aB_9 aS_9 aR_9 aF_9 aC_9 aX_9 sa_9 bb_9 ad_9 cS_9 cB_9 g_9 (xs 2) (xs 3) (xs 4) (hg_9)) (cwV 3 hts (gG_V kw_545 kw_546 kw_547 kw_2 kw_548) rfl rfl rfl (by decide +kernel) ⟨Nat.le_of_ble_eq_true rfl, Nat.le_of_ble_eq_true rfl⟩) (g_preVP (X := [(q_0, .inr (9, [.ref aT_9, .ref aB_9, .ref aS_9, .ref aR_9, .ref aF_9, .ref aC_9, .ref aX_9])), (aB_9, .inr (0, [.ref sa_9, .ref bb_9, .int 0])), (sa_9, .inl (cS_9, 32, .inr (.inr (.inr (.inr g_9))))), (bb_9, .inl (cB_9, 4000, .inl (fun _ => 0))), (q_13, .inr (10, mdF qa_22 (nI kk_22) 0 0 (-1) 1 0 6 125 (-1) (-1) (-1) 0 0 17 0 (-1) 0 0 0)), (qa_22 5, .inl (cI_9, 32, .inl (fun _ => 0))), (qa_22 8, .inl (cI_9, 32, .inl (fun _ => 0))), (qa_22 9, .inl (cI_9, 32, .inl (fun _ => 0)))]) (C := RX10) (T := TX10) (N := 7) hP hD hK hS hA hN hZ (q0 := 0) rfl rfl [0, 1, 2, 3] (by decide) rfl [1, 0] rfl) rfl rfl hl.1 rfl (lv_room (Nat.le_of_ble_eq_true rfl)) dL_law_396 ⟨Nat.le_of_ble_eq_true rfl, Nat.le_of_ble_eq_true rfl⟩) hP hD hK hS hA [0, 1, 2, 3] [4, 5, 6, 7] rfl rfl (by decide) (by decide) (fun r_396 w ty1 H locs hw_396 hJ _ hS => ?_)
  rcases hw_396 with ⟨hu, hr_396⟩
  cases hu
  obtain ⟨hP, hD⟩ := hJ _ [] (List.append_nil _).symm
  have hP : va_P (dC, dI) vwCl [(q_13, .inr (10, mdF qa_22 (nI kk_22) 0 0 (-1) 1 0 6 125 (-1) (-1) (-1) 0 0 17 0 (-1) 0 0 0)), (qa_22 5, .inl (cI_9, 32, .inl (fun _ => 0))), (qa_22 8, .inl (cI_9, 32, .inl (fun _ => 0))), (qa_22 9, .inl (cI_9, 32, .inl (fun _ => 0)))] H := hP
  have hD : va_D A [(q_13, .inr (10, mdF qa_22 (nI kk_22) 0 0 (-1) 1 0 6 125 (-1) (-1) (-1) 0 0 17 0 (-1) 0 0 0)), (qa_22 5, .inl (cI_9, 32, .inl (fun _ => 0))), (qa_22 8, .inl (cI_9, 32, .inl (fun _ => 0))), (qa_22 9, .inl (cI_9, 32, .inl (fun _ => 0)))] := hD
  refine g_topi (y := bF (loopP (xs 2) (xs 3) (xs 4))) hr_396 ?_
  refine lv_aload_n hx hb dL_law_399 rfl (lv_at hl 1 rfl) ?_
  refine lv_aload_n hx hb dL_law_400 rfl (lv_at hl 3 rfl) ?_
  refine lv_iload_n hx hb dL_law_401 rfl (lv_at hl 0 rfl) ?_
  refine lv_iconst (v := 1) hx hb dL_law_402 (by decide) ?_
  refine lv_iadd hx hb dL_law_403 ?_
  refine g_topi (y := 2) (by decide) ?_
  refine g_sld hx hb hX hbl hbA hS 2 (by decide) (by unfold vp_in; decide) dL_law_404 ?_
  refine lv_aload_n hx hb dL_law_405 rfl (lv_at hl 3 rfl) ?_
  refine lv_iload_n hx hb dL_law_406 rfl (lv_at hl 0 rfl) ?_
  refine lv_iconst (v := 2) hx hb dL_law_407 (by decide) ?_
  refine lv_iadd hx hb dL_law_408 ?_
  refine g_topi (y := 3) (by decide) ?_
  refine g_sld hx hb hX hbl hbA hS 3 (by decide) (by unfold vp_in; decide) dL_law_409 ?_
  refine lv_aload_n hx hb dL_law_410 rfl (lv_at hl 3 rfl) ?_
  refine lv_iload_n hx hb dL_law_411 rfl (lv_at hl 0 rfl) ?_
  refine lv_iconst (v := 3) hx hb dL_law_412 (by decide) ?_
  refine lv_iadd hx hb dL_law_413 ?_
  refine g_topi (y := 4) (by decide) ?_
  refine g_sld hx hb hX hbl hbA hS 4 (by decide) (by unfold vp_in; decide) dL_law_414 ?_
  refine g_calli (wr := []) (va_runV (As := [.int (xs 2), .int (xs 3), .int (xs 4)]) (rest := [.int (bF (loopP (xs 2) (xs 3) (xs 4)))]) ⟨hx, hb, hml, hown, hts⟩ (mf_loop l dC dI H.size q_13 qa_22 kk_22 cI_9 (xs 2) (xs 3) (xs 4) ) (cwV 3 hts (gG_V kw_554 kw_555 kw_556 kw_5 kw_557) rfl rfl rfl (by decide +kernel) ⟨Nat.le_of_ble_eq_true rfl, Nat.le_of_ble_eq_true rfl⟩) (g_preV (C := RX11) (T := TX11) (N := 53) hP hD hK hS hA hN hZ (q0 := 0) rfl rfl [0, 1, 2, 3] (by decide) rfl [2] rfl) rfl rfl hl.1 rfl (lv_room (Nat.le_of_ble_eq_true rfl)) dL_law_415 ⟨Nat.le_of_ble_eq_true rfl, Nat.le_of_ble_eq_true rfl⟩) hP hD hK hS hA [0, 1, 2, 3] [] rfl rfl (by decide) (by decide) (fun r_415 w ty1 H locs hw_415 hP hD _ hS => ?_)
  rcases hw_415 with ⟨hu, hr_415⟩
  cases hu
  have hP : va_P (dC, dI) vwCl [] H := hP
  have hD : va_D A [] := hD
  refine g_topi (y := bF (loopP (xs 2) (xs 3) (xs 4))) hr_415 ?_
  refine lv_icmp_eq (tgt := 800) hx hb dL_law_418 (by decide) (fun c_418 => ?_) (fun c_418 => absurd rfl c_418)
  refine lv_iinc (v := 7) (lv' := [(3, .int 7), (2, .ref q_13), (1, .ref q_0), (0, .ref b)]) hx hb dL_law_800 hl (k := 0) rfl (by decide) (by decide) rfl (fun ls hl => ?_)
  refine lv_goto (tgt := 28) hx hb dL_law_803 (by decide) ?_
  refine lv_iload_n hx hb dL_law_28 rfl (lv_at hl 0 rfl) ?_
  refine lv_aload_n hx hb dL_law_29 rfl (lv_at hl 3 rfl) ?_
  refine va_slen hx hb hX hbl hbA hS dL_law_30 ?_
  refine g_topi (y := 7) rfl ?_
  refine lv_bipush (v := 6) hx hb dL_law_31 (by decide) ?_
  refine lv_isub hx hb dL_law_33 ?_
  refine g_topi (y := 1) (by decide) ?_
  refine lv_icmp_gt (tgt := 806) hx hb dL_law_34 (by decide) (fun c_34_2 => ?_) (fun c_34_2 => absurd c_34_2 (by decide))
  refine lv_iconst (v := 1) hx hb dL_law_806 (by decide) ?_
  refine va_forget (fun q hq => hAI _ (hS.2.2 q hq)) ?_
  refine W.widen (k := 600000) (n := 7302250) (Nat.le_of_ble_eq_true rfl) (Nat.le_of_ble_eq_true rfl) ?_
  exact lw_ret hx hb hr hlocks dL_law_807

