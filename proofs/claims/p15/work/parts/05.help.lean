/-! What every contract here has in common: the links inside the nest, the two static tables, a method's start and end, calls. -/
def nestWords : List Cond := [.methodLinkNest RX7 19 yX10_isIn RX10, .methodLinkNest RX6 22 yX10_isIn RX10, .methodLinkNest RX4 18 yX10_isIn RX10, .methodLinkNest RX2 105 yX10_isIn RX10, .methodLinkNest RX1 133 yX10_limit RX10, .methodLinkNest RX1 11 yX8_init RX10, .methodLinkNest RX0 71 yX10_isIn RX10, .methodLinkNest RX0 21 yX5_init RX10, .methodLinkNest RX10 9 yX7_init RX10, .methodLinkNest RX10 32 yX4_init RX10, .methodLinkNest RX10 25 yX6_init RX10]
def gN (U : State) : Prop := (∀ w ∈ nestWords, va_Nw w U) ∧ va_AO RX1 U ∧ va_AO RX5 U
theorem nest_onT : ∀ w ∈ nestWords, w.onTables = true := by decide +kernel
theorem gN.same {u U : State} (h : u.vm = U.vm) (hN : gN u) : gN U := ⟨fun w hw => (hN.1 w hw).same (nest_onT w hw) h, va_AO.moved (by rw [h]; exact Vm.Alike.refl _) hN.2.1, va_AO.moved (by rw [h]; exact Vm.Alike.refl _) hN.2.2⟩
theorem gN.warm {s U : State} (hW : s.WarmedH U.vm) (hN : gN s) : gN U := by
  refine ⟨fun w hw => ?_, va_AO.moved hW.alike hN.2.1, va_AO.moved hW.alike hN.2.2⟩
  have h0 := hN.1 w hw
  simp only [nestWords, List.mem_cons, List.not_mem_nil, or_false] at hw
  rcases hw with rfl | rfl | rfl | rfl | rfl | rfl | rfl | rfl | rfl | rfl | rfl <;> exact va_Nw.warmM hW h0
/-- the two static tables, 77 46 75 46, in cells that A doesn't name -/
def fMark (j : Nat) : Value := .int (if j = 0 then 77 else if j = 1 then 46 else if j = 2 then 75 else 46)
def gZ1 (C n : String) (A : Nat → Prop) (U : State) (H : Heap) : Prop := ∃ t : Nat, va_Z C n "[I" (.ref t) A U H ∧ va_T .int t 4 fMark A U H
def gZ (A : Nat → Prop) (U : State) (H : Heap) : Prop := gZ1 RX4 "MARK" A U H ∧ gZ1 RX11 "MAGIC" A U H
theorem gZ1.go {C n : String} {A B : Nat → Prop} {u U : State} {H H1 : Heap} (hvm : u.vm.Alike U.vm) (hq : ∀ a : Nat, a < H.size → ¬ A a → H1[a]? = H[a]?) (hAB : ∀ q, B q → A q) (h : gZ1 C n A u H) : gZ1 C n B U H1 := by
  obtain ⟨t, h1, h2⟩ := h
  exact ⟨t, ((h1.kept hq).moved hvm).narrow hAB, ((h2.kept hq).moved hvm).narrow hAB⟩
theorem gZ.go {A B : Nat → Prop} {u U : State} {H H1 : Heap} (hvm : u.vm.Alike U.vm) (hq : ∀ a : Nat, a < H.size → ¬ A a → H1[a]? = H[a]?) (hAB : ∀ q, B q → A q) (h : gZ A u H) : gZ B U H1 := ⟨h.1.go hvm hq hAB, h.2.go hvm hq hAB⟩
abbrev gT : Type := List (ClassId × FieldType)
abbrev gP (D : va_G) (tys : gT) (ws : va_W) (sz : Nat) (U : State) : Prop := U.heap.size = sz ∧ va_P D vwCl ws U.heap ∧ va_K D vwCl tys U ∧ va_D (fun _ => True) ws ∧ gN U ∧ gZ (va_A ws sz) U U.heap
abbrev gB (D : va_G) (A : Nat → Prop) (u : va_W × gT) (t : State) : Prop := va_P D vwCl u.1 t.heap ∧ va_K D vwCl u.2 t ∧ va_D A u.1
theorem g_blind {av : List Value} {D : va_G} {tys : gT} {ws : va_W} {sz : Nat} : FrameBlind (va_Pc av (gP D tys ws sz)) := fun a U g mk q => by
  obtain ⟨q0, q1, qP, qK, qD, qN, qZ⟩ := q
  exact ⟨q0, q1, qP, va_K.moved (u := U) (U := U.calling g mk a) (Vm.Alike.refl U.vm) qK, qD, gN.same (u := U) (U := U.calling g mk a) rfl qN, qZ.go (U := U.calling g mk a) (Vm.Alike.refl U.vm) (fun _ _ _ => rfl) (fun _ h => h)⟩
theorem g_fm {α β : Type} {f : α → Option β} {is : List α} {w : List β} (h : is.map f = w.map some) : is.filterMap f = w := by
  have h2 : (is.map f).filterMap id = (w.map some).filterMap id := by rw [h]
  simpa [List.filterMap_map] using h2
section GCALL
variable {s : State} {H : Heap} {D : va_G} {tys tysC : gT} {ws wc : va_W} {A : Nat → Prop} {locs : List Loc}
/-- a callee's start: its cells are those at the places isC, its tables those at isT -/
theorem g_preS {As : List Value} (hP : va_P D vwCl ws H) (hD : va_D A ws) (hK : va_K D vwCl tys s) (hS : va_S A s.heap H locs) (hA : ∀ q, s.heap.size ≤ q → A q) (hN : gN s) (hZ : gZ A s s.heap) (isC : List Nat) (hn : va_nd isC = true) (hC : isC.map (fun i => ws[i]?) = wc.map some) (isT : List Nat) (hT : isT.filterMap (fun i => tys[i]?) = tysC) : PreS s H (va_Pc As (gP D tysC wc H.size)) As :=
  ⟨g_blind, fun U hU hW => ⟨rfl, by rw [hU], by rw [hU]; exact hP.sub isC (g_fm hC), va_K.moved hW.alike (hK.sub isT hT), (hD.sub isC hn hC).weaken (fun _ _ _ _ => trivial), hN.warm hW, by rw [hU]; exact hZ.go hW.alike hS.2.1 (va_free hD hS hA isC hC)⟩⟩
theorem g_preV {As : List Value} {b q0 ci : Nat} {C : String} {T : u_T} {N : Nat} {fs : List Value} (hP : va_P D vwCl ws H) (hD : va_D A ws) (hK : va_K D vwCl tys s) (hS : va_S A s.heap H locs) (hA : ∀ q, s.heap.size ≤ q → A q) (hN : gN s) (hZ : gZ A s s.heap) (he : ws[q0]? = some (b, .inr (ci, fs))) (hc : vwCl[ci]? = some (C, T, N)) (isC : List Nat) (hn : va_nd isC = true) (hC : isC.map (fun i => ws[i]?) = wc.map some) (isT : List Nat) (hT : isT.filterMap (fun i => tys[i]?) = tysC) : PreV s H C b (va_Pc (.ref b :: As) (gP D tysC wc H.size)) As :=
  ⟨(g_preS (As := .ref b :: As) hP hD hK hS hA hN hZ isC hn hC isT hT).1, va_recv hK hP hc he, (g_preS (As := .ref b :: As) hP hD hK hS hA hN hZ isC hn hC isT hT).2⟩
variable {p : Program} {l : Launch} {e : Env} {R : Room} {m : MethodId} {args : Array Value} {below : List Frame} {meth : Method} {c : Code} {cells slots mc ms : Nat} {Q : State → Prop} {pc : Nat} {ls : Array Slot} {rest st0 : List Value} {a : Array Value} {wr : va_W}
theorem g_calli {post : Int32 → va_W × gT → Prop} (hr : va_Run p l e R s m args below meth c H locs cells slots mc ms (F0 m pc ls st0) rest (va_Qi post (gB D (va_A wc H.size)) (va_A wc H.size) a) (va_A wc H.size)) (hP : va_P D vwCl ws H) (hD : va_D A ws) (hK : va_K D vwCl tys s) (hS : va_S A s.heap H locs) (hA : ∀ q, s.heap.size ≤ q → A q) (isC isR : List Nat) (hC : isC.map (fun i => ws[i]?) = wc.map some) (hR : isR.map (fun i => ws[i]?) = wr.map some) (hn : va_nd isR = true) (hdis : ∀ i ∈ isR, i ∉ isC)
    (kk : ∀ (r : Int32) (w : va_W) (ty1 : gT) (H1 : Heap) (locs1 : List Loc), post r (w, ty1) → va_P D vwCl (wr ++ w) H1 → va_D A (wr ++ w) → va_K D vwCl (tys ++ ty1) s → va_S A s.heap H1 locs1 → W p l e R s m args below meth c H1 locs1 (cells + mc) (slots + ms) Q (F0 m (pc + 3) ls (.int r :: rest))) : W p l e R s m args below meth c H locs cells slots Q (F0 m pc ls st0) := by
  have hF := va_free (wc := wc) hD hS hA isC hC
  refine va_calli hr hS (fun q _ h => hF q h) hF (fun r u t H1 locs1 ht hvm hp hB hz hk hS1 => ?_)
  obtain ⟨w, ty1⟩ := u
  obtain ⟨hP1, hK1, hD1⟩ := hB
  rw [ht] at hP1
  obtain ⟨hP2, hD2⟩ := va_join hP hD isC isR hC hR hn hdis hk hF hP1 hD1
  exact kk r w ty1 H1 locs1 hp hP2 hD2 (hK.app (va_K.moved hvm.symm hK1)) hS1
theorem g_calll {post : Int64 → va_W × gT → Prop} (hr : va_Run p l e R s m args below meth c H locs cells slots mc ms (F0 m pc ls st0) rest (va_Ql post (gB D (va_A wc H.size)) (va_A wc H.size) a) (va_A wc H.size)) (hP : va_P D vwCl ws H) (hD : va_D A ws) (hK : va_K D vwCl tys s) (hS : va_S A s.heap H locs) (hA : ∀ q, s.heap.size ≤ q → A q) (isC isR : List Nat) (hC : isC.map (fun i => ws[i]?) = wc.map some) (hR : isR.map (fun i => ws[i]?) = wr.map some) (hn : va_nd isR = true) (hdis : ∀ i ∈ isR, i ∉ isC)
    (kk : ∀ (r : Int64) (w : va_W) (ty1 : gT) (H1 : Heap) (locs1 : List Loc), post r (w, ty1) → va_P D vwCl (wr ++ w) H1 → va_D A (wr ++ w) → va_K D vwCl (tys ++ ty1) s → va_S A s.heap H1 locs1 → W p l e R s m args below meth c H1 locs1 (cells + mc) (slots + ms) Q (F0 m (pc + 3) ls (.long r :: rest))) : W p l e R s m args below meth c H locs cells slots Q (F0 m pc ls st0) := by
  have hF := va_free (wc := wc) hD hS hA isC hC
  refine va_calll hr hS (fun q _ h => hF q h) hF (fun r u t H1 locs1 ht hvm hp hB hz hk hS1 => ?_)
  obtain ⟨w, ty1⟩ := u
  obtain ⟨hP1, hK1, hD1⟩ := hB
  rw [ht] at hP1
  obtain ⟨hP2, hD2⟩ := va_join hP hD isC isR hC hR hn hdis hk hF hP1 hD1
  exact kk r w ty1 H1 locs1 hp hP2 hD2 (hK.app (va_K.moved hvm.symm hK1)) hS1
theorem g_callv {post : va_W × gT → Prop} (hr : va_Run p l e R s m args below meth c H locs cells slots mc ms (F0 m pc ls st0) rest (va_Qv post (gB D (va_A wc H.size)) (va_A wc H.size) a) (va_A wc H.size)) (hP : va_P D vwCl ws H) (hD : va_D A ws) (hK : va_K D vwCl tys s) (hS : va_S A s.heap H locs) (hA : ∀ q, s.heap.size ≤ q → A q) (isC isR : List Nat) (hC : isC.map (fun i => ws[i]?) = wc.map some) (hR : isR.map (fun i => ws[i]?) = wr.map some) (hn : va_nd isR = true) (hdis : ∀ i ∈ isR, i ∉ isC)
    (kk : ∀ (w : va_W) (ty1 : gT) (H1 : Heap) (locs1 : List Loc), post (w, ty1) → va_P D vwCl (wr ++ w) H1 → va_D A (wr ++ w) → va_K D vwCl (tys ++ ty1) s → va_S A s.heap H1 locs1 → W p l e R s m args below meth c H1 locs1 (cells + mc) (slots + ms) Q (F0 m (pc + 3) ls rest)) : W p l e R s m args below meth c H locs cells slots Q (F0 m pc ls st0) := by
  have hF := va_free (wc := wc) hD hS hA isC hC
  refine va_callv hr hS (fun q _ h => hF q h) hF (fun u t H1 locs1 ht hvm hp hB hz hk hS1 => ?_)
  obtain ⟨w, ty1⟩ := u
  obtain ⟨hP1, hK1, hD1⟩ := hB
  rw [ht] at hP1
  obtain ⟨hP2, hD2⟩ := va_join hP hD isC isR hC hR hn hdis hk hF hP1 hD1
  exact kk w ty1 H1 locs1 hp hP2 hD2 (hK.app (va_K.moved hvm.symm hK1)) hS1
/-- an answer that is a cell (or null) -/
theorem g_callq {post : Option Nat → va_W × gT → Prop} (hr : va_Run p l e R s m args below meth c H locs cells slots mc ms (F0 m pc ls st0) rest (va_Qq post (gB D (va_A wc H.size)) (va_A wc H.size) a) (va_A wc H.size)) (hP : va_P D vwCl ws H) (hD : va_D A ws) (hK : va_K D vwCl tys s) (hS : va_S A s.heap H locs) (hA : ∀ q, s.heap.size ≤ q → A q) (isC isR : List Nat) (hC : isC.map (fun i => ws[i]?) = wc.map some) (hR : isR.map (fun i => ws[i]?) = wr.map some) (hn : va_nd isR = true) (hdis : ∀ i ∈ isR, i ∉ isC)
    (kk : ∀ (r : Option Nat) (w : va_W) (ty1 : gT) (H1 : Heap) (locs1 : List Loc), post r (w, ty1) → va_P D vwCl (wr ++ w) H1 → va_D A (wr ++ w) → va_K D vwCl (tys ++ ty1) s → va_S A s.heap H1 locs1 → W p l e R s m args below meth c H1 locs1 (cells + mc) (slots + ms) Q (F0 m (pc + 3) ls (va_rf r :: rest))) : W p l e R s m args below meth c H locs cells slots Q (F0 m pc ls st0) := by
  have hF := va_free (wc := wc) hD hS hA isC hC
  refine va_callq hr hS (fun q _ h => hF q h) hF (fun r u t H1 locs1 ht hvm hp hB hz hk hS1 => ?_)
  obtain ⟨w, ty1⟩ := u
  obtain ⟨hP1, hK1, hD1⟩ := hB
  rw [ht] at hP1
  obtain ⟨hP2, hD2⟩ := va_join hP hD isC isR hC hR hn hdis hk hF hP1 hD1
  exact kk r w ty1 H1 locs1 hp hP2 hD2 (hK.app (va_K.moved hvm.symm hK1)) hS1
theorem g_start {g : JFrame} (hP : va_P D vwCl ws s.heap) (k : ∀ (H : Heap) (locs : List Loc), va_P D vwCl ws H → va_S A s.heap H locs → W p l e R s m args below meth c H locs cells slots Q g) : W p l e R s m args below meth c s.heap [] cells slots Q g := k _ _ hP va_S.rf
theorem g_topi {x y : Int32} (h : x = y) (k : W p l e R s m args below meth c H locs cells slots Q (F0 m pc ls (.int y :: rest))) : W p l e R s m args below meth c H locs cells slots Q (F0 m pc ls (.int x :: rest)) := by subst h; exact k
theorem g_topl {x y : Int64} (h : x = y) (k : W p l e R s m args below meth c H locs cells slots Q (F0 m pc ls (.long y :: rest))) : W p l e R s m args below meth c H locs cells slots Q (F0 m pc ls (.long x :: rest)) := by subst h; exact k
end GCALL
section GARR
variable {p : Program} {l : Launch} {e : Env} {R : Room} {s : State} {m : MethodId} {args : Array Value} {below : List Frame} {meth : Method} {c : Code} {H : Heap} {locs : List Loc} {cells slots : Nat} {Q : State → Prop}
variable {cc : ByteArray} {pc : Nat} {ls : Array Slot} {rest : List Value} {D : va_G} {cl : List vw_C} {A : Nat → Prop} {a : Nat} {tys : gT} {ws : va_W} {H0 : Heap}
theorem g_iald (hx : p.tables.exec = Jvm.exec) (hb : c.code = cc) (hK : va_K D cl tys s) (hP : va_P D cl ws H) (q0 t0 : Nat) {cA : ClassId} {n : Nat} {f : Nat → Int32} (ha : ws[q0]? = some (a, .inl (cA, n, .inl f))) (ht : tys[t0]? = some (cA, .int)) {i : Int32} (j : Nat) (hij : i.toNatClampNeg = j) (hin : vp_in i n) (hdg : decode cc pc = .ok (.iaload, 1))
    (kk : W p l e R s m args below meth c H locs cells slots Q (F0 m (pc + 1) ls (.int (f j) :: rest))) : W p l e R s m args below meth c H locs cells slots Q (F0 m pc ls (.int i :: .ref a :: rest)) := by subst hij; exact va_iald hx hb hK hP q0 t0 ha ht hin hdg kk
theorem g_bald (hx : p.tables.exec = Jvm.exec) (hb : c.code = cc) (hK : va_K D cl tys s) (hP : va_P D cl ws H) (q0 t0 : Nat) {cA : ClassId} {n : Nat} {f : Nat → Int32} (ha : ws[q0]? = some (a, .inl (cA, n, .inl f))) (ht : tys[t0]? = some (cA, .byte)) {i : Int32} (j : Nat) (hij : i.toNatClampNeg = j) (hin : vp_in i n) (hdg : decode cc pc = .ok (.baload, 1))
    (kk : W p l e R s m args below meth c H locs cells slots Q (F0 m (pc + 1) ls (.int (f j) :: rest))) : W p l e R s m args below meth c H locs cells slots Q (F0 m pc ls (.int i :: .ref a :: rest)) := by subst hij; exact va_bald hx hb hK hP q0 t0 ha ht hin hdg kk
theorem g_zald (hx : p.tables.exec = Jvm.exec) (hb : c.code = cc) (hK : va_K D cl tys s) (hP : va_P D cl ws H) (q0 t0 : Nat) {cA : ClassId} {n : Nat} {f : Nat → Int32} (ha : ws[q0]? = some (a, .inl (cA, n, .inl f))) (ht : tys[t0]? = some (cA, .boolean)) {i : Int32} (j : Nat) (hij : i.toNatClampNeg = j) (hin : vp_in i n) (hdg : decode cc pc = .ok (.baload, 1))
    (kk : W p l e R s m args below meth c H locs cells slots Q (F0 m (pc + 1) ls (.int (f j) :: rest))) : W p l e R s m args below meth c H locs cells slots Q (F0 m pc ls (.int i :: .ref a :: rest)) := by subst hij; exact va_zald hx hb hK hP q0 t0 ha ht hin hdg kk
theorem g_lald (hx : p.tables.exec = Jvm.exec) (hb : c.code = cc) (hK : va_K D cl tys s) (hP : va_P D cl ws H) (q0 t0 : Nat) {cA : ClassId} {n : Nat} {f : Nat → Int64} (ha : ws[q0]? = some (a, .inl (cA, n, .inr (.inl f)))) (ht : tys[t0]? = some (cA, .long)) {i : Int32} (j : Nat) (hij : i.toNatClampNeg = j) (hin : vp_in i n) (hdg : decode cc pc = .ok (.laload, 1))
    (kk : W p l e R s m args below meth c H locs cells slots Q (F0 m (pc + 1) ls (.long (f j) :: rest))) : W p l e R s m args below meth c H locs cells slots Q (F0 m pc ls (.int i :: .ref a :: rest)) := by subst hij; exact va_lald hx hb hK hP q0 t0 ha ht hin hdg kk
/-- a reference that is there -/
theorem g_aald (hx : p.tables.exec = Jvm.exec) (hb : c.code = cc) (hK : va_K D cl tys s) (hP : va_P D cl ws H) (q0 t0 : Nat) {cA : ClassId} {C : String} {n : Nat} {f : Nat → Option Nat} (ha : ws[q0]? = some (a, .inl (cA, n, .inr (.inr (.inr (.inr f)))))) (ht : tys[t0]? = some (cA, .object C)) {i : Int32} (j : Nat) (hij : i.toNatClampNeg = j) {y : Nat} (hf : f j = some y) (hin : vp_in i n) (hdg : decode cc pc = .ok (.aaload, 1))
    (kk : W p l e R s m args below meth c H locs cells slots Q (F0 m (pc + 1) ls (.ref y :: rest))) : W p l e R s m args below meth c H locs cells slots Q (F0 m pc ls (.int i :: .ref a :: rest)) := by
  subst hij
  refine va_aldq hx hb hK hP q0 t0 ha ht hin hdg ?_
  rw [hf]
  exact kk
theorem g_iast (hx : p.tables.exec = Jvm.exec) (hb : c.code = cc) (hK : va_K D cl tys s) (hP : va_P D cl ws H) (hD : va_D A ws) (hS : va_S A H0 H locs) (q0 t0 : Nat) {cA : ClassId} {n : Nat} {f : Nat → Int32} (ha : ws[q0]? = some (a, .inl (cA, n, .inl f))) (ht : tys[t0]? = some (cA, .int)) {i : Int32} {x : Int32} (j : Nat) (hij : i.toNatClampNeg = j) (hin : vp_in i n) (hdg : decode cc pc = .ok (.iastore, 1))
    (kk : ∀ (H1 : Heap) (locs1 : List Loc), va_P D cl (ws.set q0 (a, .inl (cA, n, .inl (upd f j x)))) H1 → va_D A (ws.set q0 (a, .inl (cA, n, .inl (upd f j x)))) → va_S A H0 H1 locs1 → W p l e R s m args below meth c H1 locs1 cells slots Q (F0 m (pc + 1) ls rest)) : W p l e R s m args below meth c H locs cells slots Q (F0 m pc ls (.int x :: .int i :: .ref a :: rest)) := by subst hij; exact va_iast hx hb hK hP hD hS q0 t0 ha ht hin hdg kk
theorem g_bast (hx : p.tables.exec = Jvm.exec) (hb : c.code = cc) (hK : va_K D cl tys s) (hP : va_P D cl ws H) (hD : va_D A ws) (hS : va_S A H0 H locs) (q0 t0 : Nat) {cA : ClassId} {n : Nat} {f : Nat → Int32} (ha : ws[q0]? = some (a, .inl (cA, n, .inl f))) (ht : tys[t0]? = some (cA, .byte)) {i : Int32} {x x' : Int32} (hx' : vp_nar .byte x = x') (j : Nat) (hij : i.toNatClampNeg = j) (hin : vp_in i n) (hdg : decode cc pc = .ok (.bastore, 1))
    (kk : ∀ (H1 : Heap) (locs1 : List Loc), va_P D cl (ws.set q0 (a, .inl (cA, n, .inl (upd f j x')))) H1 → va_D A (ws.set q0 (a, .inl (cA, n, .inl (upd f j x')))) → va_S A H0 H1 locs1 → W p l e R s m args below meth c H1 locs1 cells slots Q (F0 m (pc + 1) ls rest)) : W p l e R s m args below meth c H locs cells slots Q (F0 m pc ls (.int x :: .int i :: .ref a :: rest)) := by subst hij; subst hx'; exact va_bast hx hb hK hP hD hS q0 t0 ha ht hin hdg kk
theorem g_zast (hx : p.tables.exec = Jvm.exec) (hb : c.code = cc) (hK : va_K D cl tys s) (hP : va_P D cl ws H) (hD : va_D A ws) (hS : va_S A H0 H locs) (q0 t0 : Nat) {cA : ClassId} {n : Nat} {f : Nat → Int32} (ha : ws[q0]? = some (a, .inl (cA, n, .inl f))) (ht : tys[t0]? = some (cA, .boolean)) {i : Int32} {x x' : Int32} (hx' : vp_nar .boolean x = x') (j : Nat) (hij : i.toNatClampNeg = j) (hin : vp_in i n) (hdg : decode cc pc = .ok (.bastore, 1))
    (kk : ∀ (H1 : Heap) (locs1 : List Loc), va_P D cl (ws.set q0 (a, .inl (cA, n, .inl (upd f j x')))) H1 → va_D A (ws.set q0 (a, .inl (cA, n, .inl (upd f j x')))) → va_S A H0 H1 locs1 → W p l e R s m args below meth c H1 locs1 cells slots Q (F0 m (pc + 1) ls rest)) : W p l e R s m args below meth c H locs cells slots Q (F0 m pc ls (.int x :: .int i :: .ref a :: rest)) := by subst hij; subst hx'; exact va_zast hx hb hK hP hD hS q0 t0 ha ht hin hdg kk
theorem g_last (hx : p.tables.exec = Jvm.exec) (hb : c.code = cc) (hK : va_K D cl tys s) (hP : va_P D cl ws H) (hD : va_D A ws) (hS : va_S A H0 H locs) (q0 t0 : Nat) {cA : ClassId} {n : Nat} {f : Nat → Int64} (ha : ws[q0]? = some (a, .inl (cA, n, .inr (.inl f)))) (ht : tys[t0]? = some (cA, .long)) {i : Int32} {x : Int64} (j : Nat) (hij : i.toNatClampNeg = j) (hin : vp_in i n) (hdg : decode cc pc = .ok (.lastore, 1))
    (kk : ∀ (H1 : Heap) (locs1 : List Loc), va_P D cl (ws.set q0 (a, .inl (cA, n, .inr (.inl (vp_updL f j x))))) H1 → va_D A (ws.set q0 (a, .inl (cA, n, .inr (.inl (vp_updL f j x))))) → va_S A H0 H1 locs1 → W p l e R s m args below meth c H1 locs1 cells slots Q (F0 m (pc + 1) ls rest)) : W p l e R s m args below meth c H locs cells slots Q (F0 m pc ls (.long x :: .int i :: .ref a :: rest)) := by subst hij; exact va_last hx hb hK hP hD hS q0 t0 ha ht hin hdg kk
end GARR
/-- Int32 by its integer -/
theorem i_le {x y : Int32} : x ≤ y ↔ x.toInt ≤ y.toInt := Int32.le_iff_toInt_le
theorem i_lt {x y : Int32} : x < y ↔ x.toInt < y.toInt := Int32.lt_iff_toInt_lt
theorem i_eq {x y : Int32} : x = y ↔ x.toInt = y.toInt := Int32.toInt_inj.symm
theorem i_rng (x : Int32) : -2147483648 ≤ x.toInt ∧ x.toInt ≤ 2147483647 := ⟨Int32.le_toInt x, Int32.toInt_le x⟩
theorem i_nI {x : Int32} (h : 0 ≤ x) : ∃ k : Nat, k < 2 ^ 31 ∧ x = nI k ∧ x.toInt = k := by
  have h1 : ¬ x < 0 := by rw [i_lt]; rw [i_le] at h; omega
  obtain ⟨j, hj, e⟩ := nI_of h1
  exact ⟨j, hj, e, by rw [e]; exact nI_toInt hj⟩
theorem i_in {x : Int32} {n : Nat} (hn : n < 2 ^ 31) (h : 0 ≤ x) (h2 : x < nI n) : ∃ k : Nat, k < n ∧ x = nI k := by
  obtain ⟨k, hk, e, hi⟩ := i_nI h
  refine ⟨k, ?_, e⟩
  rw [i_lt, hi, nI_toInt hn] at h2
  omega
theorem g_same {D : va_G} {cl : List vw_C} {tys : gT} {s : State} (hK : va_K D cl tys s) {i j : Nat} {c1 c2 : ClassId} {ty : FieldType} (h1 : tys[i]? = some (c1, ty)) (h2 : tys[j]? = some (c2, ty)) (hp : refKind ty = false) : c1 = c2 := by
  have a := (hK.2 i _ h1).2
  have b := (hK.2 j _ h2).2
  cases ty <;> first | exact Option.some.inj (Eq.trans (Eq.symm a) b) | (simp [refKind] at hp)
/-! calls where the world ends in a pool -/
theorem va_P.left {D : va_G} {cl : List vw_C} {X Y : va_W} {H : Heap} (h : va_P D cl (X ++ Y) H) : va_P D cl X H := fun k q hk => h k q (by rw [List.getElem?_append_left (List.getElem?_eq_some_iff.mp hk).1]; exact hk)
theorem va_D.left {A : Nat → Prop} {X Y : va_W} (h : va_D A (X ++ Y)) : va_D A X := h.by id (fun k q hk => by show (X ++ Y)[k]? = some q; rw [List.getElem?_append_left (List.getElem?_eq_some_iff.mp hk).1]; exact hk) (fun i j _ _ e => e)
section GPOOL
variable {s : State} {H : Heap} {D : va_G} {tys tysC : gT} {X pl cx : va_W} {A : Nat → Prop} {locs : List Loc}
theorem g_preSP {As : List Value} (hP : va_P D vwCl (X ++ pl) H) (hD : va_D A (X ++ pl)) (hK : va_K D vwCl tys s) (hS : va_S A s.heap H locs) (hA : ∀ q, s.heap.size ≤ q → A q) (hN : gN s) (hZ : gZ A s s.heap) (isC : List Nat) (hn : va_nd isC = true) (hC : isC.map (fun i => X[i]?) = cx.map some) (isT : List Nat) (hT : isT.filterMap (fun i => tys[i]?) = tysC) : PreS s H (va_Pc As (gP D tysC (cx ++ pl) H.size)) As :=
  ⟨g_blind, fun U hU hW => ⟨rfl, by rw [hU], by rw [hU]; exact hP.part isC hC, va_K.moved hW.alike (hK.sub isT hT), (hD.part isC hn hC).weaken (fun _ _ _ _ => trivial), hN.warm hW, by rw [hU]; exact hZ.go hW.alike hS.2.1 (va_freeP hD hS hA isC hC)⟩⟩
theorem g_preVP {As : List Value} {b q0 ci : Nat} {C : String} {T : u_T} {N : Nat} {fs : List Value} (hP : va_P D vwCl (X ++ pl) H) (hD : va_D A (X ++ pl)) (hK : va_K D vwCl tys s) (hS : va_S A s.heap H locs) (hA : ∀ q, s.heap.size ≤ q → A q) (hN : gN s) (hZ : gZ A s s.heap) (he : X[q0]? = some (b, .inr (ci, fs))) (hc : vwCl[ci]? = some (C, T, N)) (isC : List Nat) (hn : va_nd isC = true) (hC : isC.map (fun i => X[i]?) = cx.map some) (isT : List Nat) (hT : isT.filterMap (fun i => tys[i]?) = tysC) : PreV s H C b (va_Pc (.ref b :: As) (gP D tysC (cx ++ pl) H.size)) As :=
  ⟨(g_preSP (As := .ref b :: As) hP hD hK hS hA hN hZ isC hn hC isT hT).1, va_recv hK hP.left hc he, (g_preSP (As := .ref b :: As) hP hD hK hS hA hN hZ isC hn hC isT hT).2⟩
variable {p : Program} {l : Launch} {e : Env} {R : Room} {m : MethodId} {args : Array Value} {below : List Frame} {meth : Method} {c : Code} {cells slots mc ms : Nat} {Q : State → Prop} {pc : Nat} {ls : Array Slot} {rest st0 : List Value} {a : Array Value} {wr : va_W}
theorem g_callvQ {post : va_W × gT → Prop} (hr : va_Run p l e R s m args below meth c H locs cells slots mc ms (F0 m pc ls st0) rest (va_Qv post (gB D (va_A cx H.size)) (va_A cx H.size) a) (va_A cx H.size)) (hP : va_P D vwCl (X ++ pl) H) (hD : va_D A (X ++ pl)) (hK : va_K D vwCl tys s) (hS : va_S A s.heap H locs) (hA : ∀ q, s.heap.size ≤ q → A q) (isC isR : List Nat) (hC : isC.map (fun i => X[i]?) = cx.map some) (hR : isR.map (fun i => X[i]?) = wr.map some) (hn : va_nd isR = true) (hdis : ∀ i ∈ isR, i ∉ isC)
    (kk : ∀ (w : va_W) (ty1 : gT) (H1 : Heap) (locs1 : List Loc), post (w, ty1) → va_P D vwCl ((wr ++ w) ++ pl) H1 → va_D A ((wr ++ w) ++ pl) → va_K D vwCl (tys ++ ty1) s → va_S A s.heap H1 locs1 → W p l e R s m args below meth c H1 locs1 (cells + mc) (slots + ms) Q (F0 m (pc + 3) ls rest)) : W p l e R s m args below meth c H locs cells slots Q (F0 m pc ls st0) := by
  have hF := va_free (wc := cx) hD.left hS hA isC hC
  refine va_callv hr hS (fun q _ h => hF q h) hF (fun u t H1 locs1 ht hvm hp hB hz hk hS1 => ?_)
  obtain ⟨w, ty1⟩ := u
  obtain ⟨hP1, hK1, hD1⟩ := hB
  rw [ht] at hP1
  obtain ⟨hP2, hD2⟩ := va_joinQ hP hD isC isR hC hR hn hdis hk hF hP1 hD1
  exact kk w ty1 H1 locs1 hp hP2 hD2 (hK.app (va_K.moved hvm.symm hK1)) hS1
theorem g_callvP {post : va_W × gT → Prop} (hr : va_Run p l e R s m args below meth c H locs cells slots mc ms (F0 m pc ls st0) rest (va_Qv post (gB D (va_A (cx ++ pl) H.size)) (va_A (cx ++ pl) H.size) a) (va_A (cx ++ pl) H.size)) (hP : va_P D vwCl (X ++ pl) H) (hD : va_D A (X ++ pl)) (hK : va_K D vwCl tys s) (hS : va_S A s.heap H locs) (hA : ∀ q, s.heap.size ≤ q → A q) (isC isR : List Nat) (hC : isC.map (fun i => X[i]?) = cx.map some) (hR : isR.map (fun i => X[i]?) = wr.map some) (hn : va_nd isR = true) (hdis : ∀ i ∈ isR, i ∉ isC)
    (kk : ∀ (w : va_W) (ty1 : gT) (H1 : Heap) (locs1 : List Loc), post (w, ty1) → (∀ rx pl1 : va_W, w = rx ++ pl1 → va_P D vwCl ((wr ++ rx) ++ pl1) H1 ∧ va_D A ((wr ++ rx) ++ pl1)) → va_K D vwCl (tys ++ ty1) s → va_S A s.heap H1 locs1 → W p l e R s m args below meth c H1 locs1 (cells + mc) (slots + ms) Q (F0 m (pc + 3) ls rest)) : W p l e R s m args below meth c H locs cells slots Q (F0 m pc ls st0) := by
  have hF := va_freeP (cx := cx) hD hS hA isC hC
  refine va_callv hr hS (fun q _ h => hF q h) hF (fun u t H1 locs1 ht hvm hp hB hz hk hS1 => ?_)
  obtain ⟨w, ty1⟩ := u
  obtain ⟨hP1, hK1, hD1⟩ := hB
  rw [ht] at hP1
  refine kk w ty1 H1 locs1 hp (fun rx pl1 hw => ?_) (hK.app (va_K.moved hvm.symm hK1)) hS1
  have hP1 : va_P D vwCl w H1 := hP1
  have hD1 : va_D (va_A (cx ++ pl) H.size) w := hD1
  subst hw
  exact va_joinP hP hD isC isR hC hR hn hdis hk hF hP1 hD1
theorem g_calliQ {post : Int32 → va_W × gT → Prop} (hr : va_Run p l e R s m args below meth c H locs cells slots mc ms (F0 m pc ls st0) rest (va_Qi post (gB D (va_A cx H.size)) (va_A cx H.size) a) (va_A cx H.size)) (hP : va_P D vwCl (X ++ pl) H) (hD : va_D A (X ++ pl)) (hK : va_K D vwCl tys s) (hS : va_S A s.heap H locs) (hA : ∀ q, s.heap.size ≤ q → A q) (isC isR : List Nat) (hC : isC.map (fun i => X[i]?) = cx.map some) (hR : isR.map (fun i => X[i]?) = wr.map some) (hn : va_nd isR = true) (hdis : ∀ i ∈ isR, i ∉ isC)
    (kk : ∀ (r : Int32) (w : va_W) (ty1 : gT) (H1 : Heap) (locs1 : List Loc), post r (w, ty1) → va_P D vwCl ((wr ++ w) ++ pl) H1 → va_D A ((wr ++ w) ++ pl) → va_K D vwCl (tys ++ ty1) s → va_S A s.heap H1 locs1 → W p l e R s m args below meth c H1 locs1 (cells + mc) (slots + ms) Q (F0 m (pc + 3) ls (.int r :: rest))) : W p l e R s m args below meth c H locs cells slots Q (F0 m pc ls st0) := by
  have hF := va_free (wc := cx) hD.left hS hA isC hC
  refine va_calli hr hS (fun q _ h => hF q h) hF (fun r u t H1 locs1 ht hvm hp hB hz hk hS1 => ?_)
  obtain ⟨w, ty1⟩ := u
  obtain ⟨hP1, hK1, hD1⟩ := hB
  rw [ht] at hP1
  obtain ⟨hP2, hD2⟩ := va_joinQ hP hD isC isR hC hR hn hdis hk hF hP1 hD1
  exact kk r w ty1 H1 locs1 hp hP2 hD2 (hK.app (va_K.moved hvm.symm hK1)) hS1
theorem g_calliP {post : Int32 → va_W × gT → Prop} (hr : va_Run p l e R s m args below meth c H locs cells slots mc ms (F0 m pc ls st0) rest (va_Qi post (gB D (va_A (cx ++ pl) H.size)) (va_A (cx ++ pl) H.size) a) (va_A (cx ++ pl) H.size)) (hP : va_P D vwCl (X ++ pl) H) (hD : va_D A (X ++ pl)) (hK : va_K D vwCl tys s) (hS : va_S A s.heap H locs) (hA : ∀ q, s.heap.size ≤ q → A q) (isC isR : List Nat) (hC : isC.map (fun i => X[i]?) = cx.map some) (hR : isR.map (fun i => X[i]?) = wr.map some) (hn : va_nd isR = true) (hdis : ∀ i ∈ isR, i ∉ isC)
    (kk : ∀ (r : Int32) (w : va_W) (ty1 : gT) (H1 : Heap) (locs1 : List Loc), post r (w, ty1) → (∀ rx pl1 : va_W, w = rx ++ pl1 → va_P D vwCl ((wr ++ rx) ++ pl1) H1 ∧ va_D A ((wr ++ rx) ++ pl1)) → va_K D vwCl (tys ++ ty1) s → va_S A s.heap H1 locs1 → W p l e R s m args below meth c H1 locs1 (cells + mc) (slots + ms) Q (F0 m (pc + 3) ls (.int r :: rest))) : W p l e R s m args below meth c H locs cells slots Q (F0 m pc ls st0) := by
  have hF := va_freeP (cx := cx) hD hS hA isC hC
  refine va_calli hr hS (fun q _ h => hF q h) hF (fun r u t H1 locs1 ht hvm hp hB hz hk hS1 => ?_)
  obtain ⟨w, ty1⟩ := u
  obtain ⟨hP1, hK1, hD1⟩ := hB
  rw [ht] at hP1
  refine kk r w ty1 H1 locs1 hp (fun rx pl1 hw => ?_) (hK.app (va_K.moved hvm.symm hK1)) hS1
  have hP1 : va_P D vwCl w H1 := hP1
  have hD1 : va_D (va_A (cx ++ pl) H.size) w := hD1
  subst hw
  exact va_joinP hP hD isC isR hC hR hn hdis hk hF hP1 hD1
theorem g_calllQ {post : Int64 → va_W × gT → Prop} (hr : va_Run p l e R s m args below meth c H locs cells slots mc ms (F0 m pc ls st0) rest (va_Ql post (gB D (va_A cx H.size)) (va_A cx H.size) a) (va_A cx H.size)) (hP : va_P D vwCl (X ++ pl) H) (hD : va_D A (X ++ pl)) (hK : va_K D vwCl tys s) (hS : va_S A s.heap H locs) (hA : ∀ q, s.heap.size ≤ q → A q) (isC isR : List Nat) (hC : isC.map (fun i => X[i]?) = cx.map some) (hR : isR.map (fun i => X[i]?) = wr.map some) (hn : va_nd isR = true) (hdis : ∀ i ∈ isR, i ∉ isC)
    (kk : ∀ (r : Int64) (w : va_W) (ty1 : gT) (H1 : Heap) (locs1 : List Loc), post r (w, ty1) → va_P D vwCl ((wr ++ w) ++ pl) H1 → va_D A ((wr ++ w) ++ pl) → va_K D vwCl (tys ++ ty1) s → va_S A s.heap H1 locs1 → W p l e R s m args below meth c H1 locs1 (cells + mc) (slots + ms) Q (F0 m (pc + 3) ls (.long r :: rest))) : W p l e R s m args below meth c H locs cells slots Q (F0 m pc ls st0) := by
  have hF := va_free (wc := cx) hD.left hS hA isC hC
  refine va_calll hr hS (fun q _ h => hF q h) hF (fun r u t H1 locs1 ht hvm hp hB hz hk hS1 => ?_)
  obtain ⟨w, ty1⟩ := u
  obtain ⟨hP1, hK1, hD1⟩ := hB
  rw [ht] at hP1
  obtain ⟨hP2, hD2⟩ := va_joinQ hP hD isC isR hC hR hn hdis hk hF hP1 hD1
  exact kk r w ty1 H1 locs1 hp hP2 hD2 (hK.app (va_K.moved hvm.symm hK1)) hS1
theorem g_calllP {post : Int64 → va_W × gT → Prop} (hr : va_Run p l e R s m args below meth c H locs cells slots mc ms (F0 m pc ls st0) rest (va_Ql post (gB D (va_A (cx ++ pl) H.size)) (va_A (cx ++ pl) H.size) a) (va_A (cx ++ pl) H.size)) (hP : va_P D vwCl (X ++ pl) H) (hD : va_D A (X ++ pl)) (hK : va_K D vwCl tys s) (hS : va_S A s.heap H locs) (hA : ∀ q, s.heap.size ≤ q → A q) (isC isR : List Nat) (hC : isC.map (fun i => X[i]?) = cx.map some) (hR : isR.map (fun i => X[i]?) = wr.map some) (hn : va_nd isR = true) (hdis : ∀ i ∈ isR, i ∉ isC)
    (kk : ∀ (r : Int64) (w : va_W) (ty1 : gT) (H1 : Heap) (locs1 : List Loc), post r (w, ty1) → (∀ rx pl1 : va_W, w = rx ++ pl1 → va_P D vwCl ((wr ++ rx) ++ pl1) H1 ∧ va_D A ((wr ++ rx) ++ pl1)) → va_K D vwCl (tys ++ ty1) s → va_S A s.heap H1 locs1 → W p l e R s m args below meth c H1 locs1 (cells + mc) (slots + ms) Q (F0 m (pc + 3) ls (.long r :: rest))) : W p l e R s m args below meth c H locs cells slots Q (F0 m pc ls st0) := by
  have hF := va_freeP (cx := cx) hD hS hA isC hC
  refine va_calll hr hS (fun q _ h => hF q h) hF (fun r u t H1 locs1 ht hvm hp hB hz hk hS1 => ?_)
  obtain ⟨w, ty1⟩ := u
  obtain ⟨hP1, hK1, hD1⟩ := hB
  rw [ht] at hP1
  refine kk r w ty1 H1 locs1 hp (fun rx pl1 hw => ?_) (hK.app (va_K.moved hvm.symm hK1)) hS1
  have hP1 : va_P D vwCl w H1 := hP1
  have hD1 : va_D (va_A (cx ++ pl) H.size) w := hD1
  subst hw
  exact va_joinP hP hD isC isR hC hR hn hdis hk hF hP1 hD1
theorem g_callqQ {post : Option Nat → va_W × gT → Prop} (hr : va_Run p l e R s m args below meth c H locs cells slots mc ms (F0 m pc ls st0) rest (va_Qq post (gB D (va_A cx H.size)) (va_A cx H.size) a) (va_A cx H.size)) (hP : va_P D vwCl (X ++ pl) H) (hD : va_D A (X ++ pl)) (hK : va_K D vwCl tys s) (hS : va_S A s.heap H locs) (hA : ∀ q, s.heap.size ≤ q → A q) (isC isR : List Nat) (hC : isC.map (fun i => X[i]?) = cx.map some) (hR : isR.map (fun i => X[i]?) = wr.map some) (hn : va_nd isR = true) (hdis : ∀ i ∈ isR, i ∉ isC)
    (kk : ∀ (r : Option Nat) (w : va_W) (ty1 : gT) (H1 : Heap) (locs1 : List Loc), post r (w, ty1) → va_P D vwCl ((wr ++ w) ++ pl) H1 → va_D A ((wr ++ w) ++ pl) → va_K D vwCl (tys ++ ty1) s → va_S A s.heap H1 locs1 → W p l e R s m args below meth c H1 locs1 (cells + mc) (slots + ms) Q (F0 m (pc + 3) ls (va_rf r :: rest))) : W p l e R s m args below meth c H locs cells slots Q (F0 m pc ls st0) := by
  have hF := va_free (wc := cx) hD.left hS hA isC hC
  refine va_callq hr hS (fun q _ h => hF q h) hF (fun r u t H1 locs1 ht hvm hp hB hz hk hS1 => ?_)
  obtain ⟨w, ty1⟩ := u
  obtain ⟨hP1, hK1, hD1⟩ := hB
  rw [ht] at hP1
  obtain ⟨hP2, hD2⟩ := va_joinQ hP hD isC isR hC hR hn hdis hk hF hP1 hD1
  exact kk r w ty1 H1 locs1 hp hP2 hD2 (hK.app (va_K.moved hvm.symm hK1)) hS1
theorem g_callqP {post : Option Nat → va_W × gT → Prop} (hr : va_Run p l e R s m args below meth c H locs cells slots mc ms (F0 m pc ls st0) rest (va_Qq post (gB D (va_A (cx ++ pl) H.size)) (va_A (cx ++ pl) H.size) a) (va_A (cx ++ pl) H.size)) (hP : va_P D vwCl (X ++ pl) H) (hD : va_D A (X ++ pl)) (hK : va_K D vwCl tys s) (hS : va_S A s.heap H locs) (hA : ∀ q, s.heap.size ≤ q → A q) (isC isR : List Nat) (hC : isC.map (fun i => X[i]?) = cx.map some) (hR : isR.map (fun i => X[i]?) = wr.map some) (hn : va_nd isR = true) (hdis : ∀ i ∈ isR, i ∉ isC)
    (kk : ∀ (r : Option Nat) (w : va_W) (ty1 : gT) (H1 : Heap) (locs1 : List Loc), post r (w, ty1) → (∀ rx pl1 : va_W, w = rx ++ pl1 → va_P D vwCl ((wr ++ rx) ++ pl1) H1 ∧ va_D A ((wr ++ rx) ++ pl1)) → va_K D vwCl (tys ++ ty1) s → va_S A s.heap H1 locs1 → W p l e R s m args below meth c H1 locs1 (cells + mc) (slots + ms) Q (F0 m (pc + 3) ls (va_rf r :: rest))) : W p l e R s m args below meth c H locs cells slots Q (F0 m pc ls st0) := by
  have hF := va_freeP (cx := cx) hD hS hA isC hC
  refine va_callq hr hS (fun q _ h => hF q h) hF (fun r u t H1 locs1 ht hvm hp hB hz hk hS1 => ?_)
  obtain ⟨w, ty1⟩ := u
  obtain ⟨hP1, hK1, hD1⟩ := hB
  rw [ht] at hP1
  refine kk r w ty1 H1 locs1 hp (fun rx pl1 hw => ?_) (hK.app (va_K.moved hvm.symm hK1)) hS1
  have hP1 : va_P D vwCl w H1 := hP1
  have hD1 : va_D (va_A (cx ++ pl) H.size) w := hD1
  subst hw
  exact va_joinP hP hD isC isR hC hR hn hdis hk hF hP1 hD1
end GPOOL
