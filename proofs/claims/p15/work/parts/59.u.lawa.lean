theorem law_7 {L : Nat} (hL : L ≤ 7) (hh : ¬ (Int32.ofNat L - 6) < 1) : L = 7 := by
  rcases (show L = 0 ∨ L = 1 ∨ L = 2 ∨ L = 3 ∨ L = 4 ∨ L = 5 ∨ L = 6 ∨ L = 7 by omega) with rfl | rfl | rfl | rfl | rfl | rfl | rfl | rfl
  · exact absurd (by decide) hh
  · exact absurd (by decide) hh
  · exact absurd (by decide) hh
  · exact absurd (by decide) hh
  · exact absurd (by decide) hh
  · exact absurd (by decide) hh
  · exact absurd (by decide) hh
  · rfl
section GLAW
variable {p : Program} {l : Launch} {e : Env} {R : Room} {s : State} {m : MethodId} {args : Array Value} {below : List Frame} {meth : Method} {c : Code} {H : Heap} {locs : List Loc} {cells slots : Nat} {Q : State → Prop} {cc : ByteArray} {pc : Nat} {ls : Array Slot} {rest : List Value} {D : va_G} {A : Nat → Prop} {tys : gT} {ws : va_W}
theorem g_sld (hx : p.tables.exec = Jvm.exec) (hb : c.code = cc) {b L : Nat} {xs : Nat → Int32} (hX : va_X b L xs s s.heap) (hbl : b < s.heap.size) (hbA : ¬ A b) (hS : va_S A s.heap H locs) {i : Int32} (j : Nat) (hij : i.toNatClampNeg = j) (hin : vp_in i L) (hdg : decode cc pc = .ok (.iaload, 1))
    (kk : W p l e R s m args below meth c H locs cells slots Q (F0 m (pc + 1) ls (.int (xs j) :: rest))) : W p l e R s m args below meth c H locs cells slots Q (F0 m pc ls (.int i :: .ref b :: rest)) := by subst hij; exact va_sld hx hb hX hbl hbA hS hin hdg kk
theorem g_preX {b L : Nat} {xs : Nat → Int32} (hP : va_P D vwCl ws H) (hD : va_D A ws) (hK : va_K D vwCl tys s) (hS : va_S A s.heap H locs) (hA : ∀ q, s.heap.size ≤ q → A q) (hN : gN s) (hZ : gZ A s s.heap) (hX : va_X b L xs s s.heap) (hbl : b < s.heap.size) (hbA : ¬ A b) : PreS s H (va_Pc [.ref b, .int 0] (fun U => gP D [] [] H.size U ∧ va_X b L xs U U.heap ∧ b < H.size)) [.ref b, .int 0] := by
  have h0 := g_preS (As := [.ref b, .int 0]) (wc := []) (tysC := []) hP hD hK hS hA hN hZ [] rfl rfl [] rfl
  refine ⟨fun a U g mk q => ?_, fun U hU hW => ⟨rfl, (h0.2 U hU hW).2, ?_, Nat.lt_of_lt_of_le hbl hS.1⟩⟩
  · obtain ⟨q0, q1, q2, q3⟩ := q
    exact ⟨q0, (h0.1 a U g mk ⟨q0, q1⟩).2, va_X.moved (u := U) (U := U.calling g mk a) (Vm.Alike.refl U.vm) q2, q3⟩
  · rw [hU]
    exact (hX.kept (hS.2.1 b hbl hbA)).moved hW.alike
end GLAW
theorem vp_0 {L : Nat} (hh : ¬ Int32.ofNat L ≤ 0) : vp_in 0 L := by
  rcases Nat.eq_zero_or_pos L with qv | qv
  · subst qv; exact absurd (by decide) hh
  · unfold vp_in
    rintro (qw | qw)
    · exact absurd qw (by decide)
    · have e0 : (0 : Int32).toNatClampNeg = 0 := rfl
      omega
set_option maxHeartbeats 400000 in
set_option maxRecDepth 100000 in
/-- the script's first number, or 0: here it doesn't matter which -/
theorem c_Lcell (l : Launch) (dC : Nat → ClassId) (dI : Nat → Nat → Nat) (sz : Nat) (b L : Nat) (xs : Nat → Int32) : Met l yL_cell (wsG (.code yL_cell cL_cell 2 (some .int))) ({ frames := 0, cells := 0, slots := 0, locals := 0 }) (va_Pc [.ref b, .int 0] (fun U => gP (dC, dI) [] [] sz U ∧ va_X b L xs U U.heap ∧ b < sz)) (va_Qi (fun (r : Int32) (u : va_W × gT) => u = ([], [])) (gB (dC, dI) (va_A [] sz)) (va_A [] sz)) 0 0 (va_A [] sz) := by
  refine Met.ofW (cc := cL_cell) (maxL := 2) (ret := (some .int)) (by decide) rfl ?_
  intro p e s m args below meth c s₁ B hml hv
  obtain ⟨rfl, ⟨hsz, hP, hK, hD0, hN, hZ⟩, hX, hbl⟩ := hv
  have hx := B.exec
  have hb := B.bytes
  have hr := B.returns
  have hlocks := B.notSynchronized
  subst hsz
  have hD := hD0.self (sz := s.heap.size)
  have hbA : ¬ va_A [] s.heap.size b := by
    rintro (⟨k9, e9, h9⟩ | h9)
    · simp at h9
    · omega
  generalize hAe : va_A [] s.heap.size = A at hD hZ hbA ⊢
  have hl := lv_entry ([.ref b, .int 0]) (n := 2) (Nat.le_of_ble_eq_true rfl)
  rw [lg_entry_eq]
  generalize (lg_sl ([.ref b, .int 0]) ++ List.replicate (2 - (lg_sl ([.ref b, .int 0])).length) Slot.unset).toArray = ls at hl ⊢
  have hl : lv_has ls 2 [(0, .ref b), (1, .int 0)] := hl
  refine g_start (A := A) hP (fun H locs hP hS => ?_)
  refine lv_iload_n hx hb dL_cell_0 rfl (lv_at hl 1 rfl) ?_
  refine lv_aload_n hx hb dL_cell_1 rfl (lv_at hl 0 rfl) ?_
  refine va_slen hx hb hX hbl hbA hS dL_cell_2 ?_
  refine lv_icmp_ge (tgt := 12) hx hb dL_cell_3 (by decide) (fun c_3 => ?_) (fun c_3 => ?_)
  · refine lv_iconst (v := 0) hx hb dL_cell_12 (by decide) ?_
    exact W.iret (v := 0) hx hb hr (fun t ht hW => ⟨⟨0, ([], []), rfl, rfl, by rw [ht]; exact hP, va_K.moved hW.alike hK, hD⟩, hS.F ht⟩) hS.2.2 dL_cell_13
  refine lv_aload_n hx hb dL_cell_6 rfl (lv_at hl 0 rfl) ?_
  refine lv_iload_n hx hb dL_cell_7 rfl (lv_at hl 1 rfl) ?_
  refine g_sld hx hb hX hbl hbA hS 0 rfl (vp_0 c_3) dL_cell_8 ?_
  refine lv_goto (tgt := 13) hx hb dL_cell_9 (by decide) ?_
  exact W.iret (v := xs 0) hx hb hr (fun t ht hW => ⟨⟨xs 0, ([], []), rfl, rfl, by rw [ht]; exact hP, va_K.moved hW.alike hK, hD⟩, hS.F ht⟩) hS.2.2 dL_cell_13
