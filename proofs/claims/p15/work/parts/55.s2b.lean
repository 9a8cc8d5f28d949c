set_option maxHeartbeats 400000 in
set_option maxRecDepth 100000 in
theorem G_channel (l : Launch) (dC : Nat → ClassId) (dI : Nat → Nat → Nat) (sz : Nat) (h aT aB aS aR aF aC aX : Nat) (c0 c1 c2 c3 v0 v1 v2 v3 w0 w1 w2 w3 : Nat) (cC : ClassId) (gc : Nat → Option Nat) (xc0 xc1 xc2 xc3 : Nat → Int32) (xl0 xl1 xl2 xl3 : Int64) (mu0 mu1 mu2 mu3 : Int32) (xv0 xv1 xv2 xv3 xy0 xy1 xy2 xy3 : Nat → Int32) (x1 x2 : Int32) (hc0 : gc 0 = some c0) (hc1 : gc 1 = some c1) (hc2 : gc 2 = some c2) (hc3 : gc 3 = some c3) : Met l yX10_channel (wsG (.code yX10_channel cX10_channel 4 (some .int))) ({ frames := 1, cells := 0, slots := 0, locals := 21 }) (va_Pc [.ref h, .int x1, .int x2] (gP (dC, dI) [(cC, .object RX1)] [(h, .inr (9, [.ref aT, .ref aB, .ref aS, .ref aR, .ref aF, .ref aC, .ref aX])), (aC, .inl (cC, 4, .inr (.inr (.inr (.inr gc))))), (c0, .inr (1, [.ref aB, .ref v0, .ref w0, .int (xc0 3), .int (xc0 4), .int (xc0 5), .int (xc0 6), .int (xc0 7), .int (xc0 8), .int (xc0 9), .int (xc0 10), .int (xc0 11), .int (xc0 12), .int (xc0 13), .int (xc0 14), .int (xc0 15), .long xl0, .int (xc0 17), .int mu0])), (c1, .inr (1, [.ref aB, .ref v1, .ref w1, .int (xc1 3), .int (xc1 4), .int (xc1 5), .int (xc1 6), .int (xc1 7), .int (xc1 8), .int (xc1 9), .int (xc1 10), .int (xc1 11), .int (xc1 12), .int (xc1 13), .int (xc1 14), .int (xc1 15), .long xl1, .int (xc1 17), .int mu1])), (c2, .inr (1, [.ref aB, .ref v2, .ref w2, .int (xc2 3), .int (xc2 4), .int (xc2 5), .int (xc2 6), .int (xc2 7), .int (xc2 8), .int (xc2 9), .int (xc2 10), .int (xc2 11), .int (xc2 12), .int (xc2 13), .int (xc2 14), .int (xc2 15), .long xl2, .int (xc2 17), .int mu2])), (c3, .inr (1, [.ref aB, .ref v3, .ref w3, .int (xc3 3), .int (xc3 4), .int (xc3 5), .int (xc3 6), .int (xc3 7), .int (xc3 8), .int (xc3 9), .int (xc3 10), .int (xc3 11), .int (xc3 12), .int (xc3 13), .int (xc3 14), .int (xc3 15), .long xl3, .int (xc3 17), .int mu3])), (v0, .inr (8, [.int (xv0 0), .int (xv0 1), .int (xv0 2), .int (xv0 3)])), (v1, .inr (8, [.int (xv1 0), .int (xv1 1), .int (xv1 2), .int (xv1 3)])), (v2, .inr (8, [.int (xv2 0), .int (xv2 1), .int (xv2 2), .int (xv2 3)])), (v3, .inr (8, [.int (xv3 0), .int (xv3 1), .int (xv3 2), .int (xv3 3)])), (w0, .inr (8, [.int (xy0 0), .int (xy0 1), .int (xy0 2), .int (xy0 3)])), (w1, .inr (8, [.int (xy1 0), .int (xy1 1), .int (xy1 2), .int (xy1 3)])), (w2, .inr (8, [.int (xy2 0), .int (xy2 1), .int (xy2 2), .int (xy2 3)])), (w3, .inr (8, [.int (xy3 0), .int (xy3 1), .int (xy3 2), .int (xy3 3)]))] sz)) (va_Qi (fun (r : Int32) (u : va_W × gT) => u = ([(h, .inr (9, [.ref aT, .ref aB, .ref aS, .ref aR, .ref aF, .ref aC, .ref aX])), (aC, .inl (cC, 4, .inr (.inr (.inr (.inr gc))))), (c0, .inr (1, [.ref aB, .ref v0, .ref w0, .int (xc0 3), .int (xc0 4), .int (xc0 5), .int (xc0 6), .int (xc0 7), .int (xc0 8), .int (xc0 9), .int (xc0 10), .int (xc0 11), .int (xc0 12), .int (xc0 13), .int (xc0 14), .int (xc0 15), .long xl0, .int (xc0 17), .int mu0])), (c1, .inr (1, [.ref aB, .ref v1, .ref w1, .int (xc1 3), .int (xc1 4), .int (xc1 5), .int (xc1 6), .int (xc1 7), .int (xc1 8), .int (xc1 9), .int (xc1 10), .int (xc1 11), .int (xc1 12), .int (xc1 13), .int (xc1 14), .int (xc1 15), .long xl1, .int (xc1 17), .int mu1])), (c2, .inr (1, [.ref aB, .ref v2, .ref w2, .int (xc2 3), .int (xc2 4), .int (xc2 5), .int (xc2 6), .int (xc2 7), .int (xc2 8), .int (xc2 9), .int (xc2 10), .int (xc2 11), .int (xc2 12), .int (xc2 13), .int (xc2 14), .int (xc2 15), .long xl2, .int (xc2 17), .int mu2])), (c3, .inr (1, [.ref aB, .ref v3, .ref w3, .int (xc3 3), .int (xc3 4), .int (xc3 5), .int (xc3 6), .int (xc3 7), .int (xc3 8), .int (xc3 9), .int (xc3 10), .int (xc3 11), .int (xc3 12), .int (xc3 13), .int (xc3 14), .int (xc3 15), .long xl3, .int (xc3 17), .int mu3])), (v0, .inr (8, [.int (xv0 0), .int (xv0 1), .int (xv0 2), .int (xv0 3)])), (v1, .inr (8, [.int (xv1 0), .int (xv1 1), .int (xv1 2), .int (xv1 3)])), (v2, .inr (8, [.int (xv2 0), .int (xv2 1), .int (xv2 2), .int (xv2 3)])), (v3, .inr (8, [.int (xv3 0), .int (xv3 1), .int (xv3 2), .int (xv3 3)])), (w0, .inr (8, [.int (xy0 0), .int (xy0 1), .int (xy0 2), .int (xy0 3)])), (w1, .inr (8, [.int (xy1 0), .int (xy1 1), .int (xy1 2), .int (xy1 3)])), (w2, .inr (8, [.int (xy2 0), .int (xy2 1), .int (xy2 2), .int (xy2 3)])), (w3, .inr (8, [.int (xy3 0), .int (xy3 1), .int (xy3 2), .int (xy3 3)]))], [])) (gB (dC, dI) (va_A [(h, .inr (9, [.ref aT, .ref aB, .ref aS, .ref aR, .ref aF, .ref aC, .ref aX])), (aC, .inl (cC, 4, .inr (.inr (.inr (.inr gc))))), (c0, .inr (1, [.ref aB, .ref v0, .ref w0, .int (xc0 3), .int (xc0 4), .int (xc0 5), .int (xc0 6), .int (xc0 7), .int (xc0 8), .int (xc0 9), .int (xc0 10), .int (xc0 11), .int (xc0 12), .int (xc0 13), .int (xc0 14), .int (xc0 15), .long xl0, .int (xc0 17), .int mu0])), (c1, .inr (1, [.ref aB, .ref v1, .ref w1, .int (xc1 3), .int (xc1 4), .int (xc1 5), .int (xc1 6), .int (xc1 7), .int (xc1 8), .int (xc1 9), .int (xc1 10), .int (xc1 11), .int (xc1 12), .int (xc1 13), .int (xc1 14), .int (xc1 15), .long xl1, .int (xc1 17), .int mu1])), (c2, .inr (1, [.ref aB, .ref v2, .ref w2, .int (xc2 3), .int (xc2 4), .int (xc2 5), .int (xc2 6), .int (xc2 7), .int (xc2 8), .int (xc2 9), .int (xc2 10), .int (xc2 11), .int (xc2 12), .int (xc2 13), .int (xc2 14), .int (xc2 15), .long xl2, .int (xc2 17), .int mu2])), (c3, .inr (1, [.ref aB, .ref v3, .ref w3, .int (xc3 3), .int (xc3 4), .int (xc3 5), .int (xc3 6), .int (xc3 7), .int (xc3 8), .int (xc3 9), .int (xc3 10), .int (xc3 11), .int (xc3 12), .int (xc3 13), .int (xc3 14), .int (xc3 15), .long xl3, .int (xc3 17), .int mu3])), (v0, .inr (8, [.int (xv0 0), .int (xv0 1), .int (xv0 2), .int (xv0 3)])), (v1, .inr (8, [.int (xv1 0), .int (xv1 1), .int (xv1 2), .int (xv1 3)])), (v2, .inr (8, [.int (xv2 0), .int (xv2 1), .int (xv2 2), .int (xv2 3)])), (v3, .inr (8, [.int (xv3 0), .int (xv3 1), .int (xv3 2), .int (xv3 3)])), (w0, .inr (8, [.int (xy0 0), .int (xy0 1), .int (xy0 2), .int (xy0 3)])), (w1, .inr (8, [.int (xy1 0), .int (xy1 1), .int (xy1 2), .int (xy1 3)])), (w2, .inr (8, [.int (xy2 0), .int (xy2 1), .int (xy2 2), .int (xy2 3)])), (w3, .inr (8, [.int (xy3 0), .int (xy3 1), .int (xy3 2), .int (xy3 3)]))] sz)) (va_A [(h, .inr (9, [.ref aT, .ref aB, .ref aS, .ref aR, .ref aF, .ref aC, .ref aX])), (aC, .inl (cC, 4, .inr (.inr (.inr (.inr gc))))), (c0, .inr (1, [.ref aB, .ref v0, .ref w0, .int (xc0 3), .int (xc0 4), .int (xc0 5), .int (xc0 6), .int (xc0 7), .int (xc0 8), .int (xc0 9), .int (xc0 10), .int (xc0 11), .int (xc0 12), .int (xc0 13), .int (xc0 14), .int (xc0 15), .long xl0, .int (xc0 17), .int mu0])), (c1, .inr (1, [.ref aB, .ref v1, .ref w1, .int (xc1 3), .int (xc1 4), .int (xc1 5), .int (xc1 6), .int (xc1 7), .int (xc1 8), .int (xc1 9), .int (xc1 10), .int (xc1 11), .int (xc1 12), .int (xc1 13), .int (xc1 14), .int (xc1 15), .long xl1, .int (xc1 17), .int mu1])), (c2, .inr (1, [.ref aB, .ref v2, .ref w2, .int (xc2 3), .int (xc2 4), .int (xc2 5), .int (xc2 6), .int (xc2 7), .int (xc2 8), .int (xc2 9), .int (xc2 10), .int (xc2 11), .int (xc2 12), .int (xc2 13), .int (xc2 14), .int (xc2 15), .long xl2, .int (xc2 17), .int mu2])), (c3, .inr (1, [.ref aB, .ref v3, .ref w3, .int (xc3 3), .int (xc3 4), .int (xc3 5), .int (xc3 6), .int (xc3 7), .int (xc3 8), .int (xc3 9), .int (xc3 10), .int (xc3 11), .int (xc3 12), .int (xc3 13), .int (xc3 14), .int (xc3 15), .long xl3, .int (xc3 17), .int mu3])), (v0, .inr (8, [.int (xv0 0), .int (xv0 1), .int (xv0 2), .int (xv0 3)])), (v1, .inr (8, [.int (xv1 0), .int (xv1 1), .int (xv1 2), .int (xv1 3)])), (v2, .inr (8, [.int (xv2 0), .int (xv2 1), .int (xv2 2), .int (xv2 3)])), (v3, .inr (8, [.int (xv3 0), .int (xv3 1), .int (xv3 2), .int (xv3 3)])), (w0, .inr (8, [.int (xy0 0), .int (xy0 1), .int (xy0 2), .int (xy0 3)])), (w1, .inr (8, [.int (xy1 0), .int (xy1 1), .int (xy1 2), .int (xy1 3)])), (w2, .inr (8, [.int (xy2 0), .int (xy2 1), .int (xy2 2), .int (xy2 3)])), (w3, .inr (8, [.int (xy3 0), .int (xy3 1), .int (xy3 2), .int (xy3 3)]))] sz)) 0 0 (va_A [(h, .inr (9, [.ref aT, .ref aB, .ref aS, .ref aR, .ref aF, .ref aC, .ref aX])), (aC, .inl (cC, 4, .inr (.inr (.inr (.inr gc))))), (c0, .inr (1, [.ref aB, .ref v0, .ref w0, .int (xc0 3), .int (xc0 4), .int (xc0 5), .int (xc0 6), .int (xc0 7), .int (xc0 8), .int (xc0 9), .int (xc0 10), .int (xc0 11), .int (xc0 12), .int (xc0 13), .int (xc0 14), .int (xc0 15), .long xl0, .int (xc0 17), .int mu0])), (c1, .inr (1, [.ref aB, .ref v1, .ref w1, .int (xc1 3), .int (xc1 4), .int (xc1 5), .int (xc1 6), .int (xc1 7), .int (xc1 8), .int (xc1 9), .int (xc1 10), .int (xc1 11), .int (xc1 12), .int (xc1 13), .int (xc1 14), .int (xc1 15), .long xl1, .int (xc1 17), .int mu1])), (c2, .inr (1, [.ref aB, .ref v2, .ref w2, .int (xc2 3), .int (xc2 4), .int (xc2 5), .int (xc2 6), .int (xc2 7), .int (xc2 8), .int (xc2 9), .int (xc2 10), .int (xc2 11), .int (xc2 12), .int (xc2 13), .int (xc2 14), .int (xc2 15), .long xl2, .int (xc2 17), .int mu2])), (c3, .inr (1, [.ref aB, .ref v3, .ref w3, .int (xc3 3), .int (xc3 4), .int (xc3 5), .int (xc3 6), .int (xc3 7), .int (xc3 8), .int (xc3 9), .int (xc3 10), .int (xc3 11), .int (xc3 12), .int (xc3 13), .int (xc3 14), .int (xc3 15), .long xl3, .int (xc3 17), .int mu3])), (v0, .inr (8, [.int (xv0 0), .int (xv0 1), .int (xv0 2), .int (xv0 3)])), (v1, .inr (8, [.int (xv1 0), .int (xv1 1), .int (xv1 2), .int (xv1 3)])), (v2, .inr (8, [.int (xv2 0), .int (xv2 1), .int (xv2 2), .int (xv2 3)])), (v3, .inr (8, [.int (xv3 0), .int (xv3 1), .int (xv3 2), .int (xv3 3)])), (w0, .inr (8, [.int (xy0 0), .int (xy0 1), .int (xy0 2), .int (xy0 3)])), (w1, .inr (8, [.int (xy1 0), .int (xy1 1), .int (xy1 2), .int (xy1 3)])), (w2, .inr (8, [.int (xy2 0), .int (xy2 1), .int (xy2 2), .int (xy2 3)])), (w3, .inr (8, [.int (xy3 0), .int (xy3 1), .int (xy3 2), .int (xy3 3)]))] sz) := by
  refine Met.ofW (cc := cX10_channel) (maxL := 4) (ret := (some .int)) (by decide) rfl ?_
  intro p e s m args below meth c s₁ B hml hv
  obtain ⟨rfl, hsz, hP, hK, hD0, hN, hZ⟩ := hv
  have hx := B.exec
  have hb := B.bytes
  have hr := B.returns
  have hts := atoms_spec (ws := (wsG (.code yX10_channel cX10_channel 4 (some .int)))) B.pre
  have hown : s.vm.findClass RX10 = some m.cls := findClass_of_methodNamed B.named
  have hlocks := B.notSynchronized
  subst hsz
  have hD := hD0.self (sz := s.heap.size)
  generalize hAe : va_A [(h, .inr (9, [.ref aT, .ref aB, .ref aS, .ref aR, .ref aF, .ref aC, .ref aX])), (aC, .inl (cC, 4, .inr (.inr (.inr (.inr gc))))), (c0, .inr (1, [.ref aB, .ref v0, .ref w0, .int (xc0 3), .int (xc0 4), .int (xc0 5), .int (xc0 6), .int (xc0 7), .int (xc0 8), .int (xc0 9), .int (xc0 10), .int (xc0 11), .int (xc0 12), .int (xc0 13), .int (xc0 14), .int (xc0 15), .long xl0, .int (xc0 17), .int mu0])), (c1, .inr (1, [.ref aB, .ref v1, .ref w1, .int (xc1 3), .int (xc1 4), .int (xc1 5), .int (xc1 6), .int (xc1 7), .int (xc1 8), .int (xc1 9), .int (xc1 10), .int (xc1 11), .int (xc1 12), .int (xc1 13), .int (xc1 14), .int (xc1 15), .long xl1, .int (xc1 17), .int mu1])), (c2, .inr (1, [.ref aB, .ref v2, .ref w2, .int (xc2 3), .int (xc2 4), .int (xc2 5), .int (xc2 6), .int (xc2 7), .int (xc2 8), .int (xc2 9), .int (xc2 10), .int (xc2 11), .int (xc2 12), .int (xc2 13), .int (xc2 14), .int (xc2 15), .long xl2, .int (xc2 17), .int mu2])), (c3, .inr (1, [.ref aB, .ref v3, .ref w3, .int (xc3 3), .int (xc3 4), .int (xc3 5), .int (xc3 6), .int (xc3 7), .int (xc3 8), .int (xc3 9), .int (xc3 10), .int (xc3 11), .int (xc3 12), .int (xc3 13), .int (xc3 14), .int (xc3 15), .long xl3, .int (xc3 17), .int mu3])), (v0, .inr (8, [.int (xv0 0), .int (xv0 1), .int (xv0 2), .int (xv0 3)])), (v1, .inr (8, [.int (xv1 0), .int (xv1 1), .int (xv1 2), .int (xv1 3)])), (v2, .inr (8, [.int (xv2 0), .int (xv2 1), .int (xv2 2), .int (xv2 3)])), (v3, .inr (8, [.int (xv3 0), .int (xv3 1), .int (xv3 2), .int (xv3 3)])), (w0, .inr (8, [.int (xy0 0), .int (xy0 1), .int (xy0 2), .int (xy0 3)])), (w1, .inr (8, [.int (xy1 0), .int (xy1 1), .int (xy1 2), .int (xy1 3)])), (w2, .inr (8, [.int (xy2 0), .int (xy2 1), .int (xy2 2), .int (xy2 3)])), (w3, .inr (8, [.int (xy3 0), .int (xy3 1), .int (xy3 2), .int (xy3 3)]))] s.heap.size = A at hD hZ ⊢
  have hA : ∀ q : Nat, s.heap.size ≤ q → A q := fun q h => by rw [← hAe]; exact Or.inr h
  have hl := lv_entry ([.ref h, .int x1, .int x2]) (n := 4) (Nat.le_of_ble_eq_true rfl)
  rw [lg_entry_eq]
  generalize (lg_sl ([.ref h, .int x1, .int x2]) ++ List.replicate (4 - (lg_sl ([.ref h, .int x1, .int x2])).length) Slot.unset).toArray = ls at hl ⊢
  have hl : lv_has ls 4 [(0, .ref h), (1, .int x1), (2, .int x2)] := hl
  refine g_start (A := A) hP (fun H locs hP hS => ?_)
  refine lv_iload_n hx hb dX10_channel_0 rfl (lv_at hl 1 rfl) ?_
  refine lv_iconst (v := 4) hx hb dX10_channel_1 (by decide) ?_
  refine g_calli (wr := [(h, .inr (9, [.ref aT, .ref aB, .ref aS, .ref aR, .ref aF, .ref aC, .ref aX])), (aC, .inl (cC, 4, .inr (.inr (.inr (.inr gc))))), (c0, .inr (1, [.ref aB, .ref v0, .ref w0, .int (xc0 3), .int (xc0 4), .int (xc0 5), .int (xc0 6), .int (xc0 7), .int (xc0 8), .int (xc0 9), .int (xc0 10), .int (xc0 11), .int (xc0 12), .int (xc0 13), .int (xc0 14), .int (xc0 15), .long xl0, .int (xc0 17), .int mu0])), (c1, .inr (1, [.ref aB, .ref v1, .ref w1, .int (xc1 3), .int (xc1 4), .int (xc1 5), .int (xc1 6), .int (xc1 7), .int (xc1 8), .int (xc1 9), .int (xc1 10), .int (xc1 11), .int (xc1 12), .int (xc1 13), .int (xc1 14), .int (xc1 15), .long xl1, .int (xc1 17), .int mu1])), (c2, .inr (1, [.ref aB, .ref v2, .ref w2, .int (xc2 3), .int (xc2 4), .int (xc2 5), .int (xc2 6), .int (xc2 7), .int (xc2 8), .int (xc2 9), .int (xc2 10), .int (xc2 11), .int (xc2 12), .int (xc2 13), .int (xc2 14), .int (xc2 15), .long xl2, .int (xc2 17), .int mu2])), (c3, .inr (1, [.ref aB, .ref v3, .ref w3, .int (xc3 3), .int (xc3 4), .int (xc3 5), .int (xc3 6), .int (xc3 7), .int (xc3 8), .int (xc3 9), .int (xc3 10), .int (xc3 11), .int (xc3 12), .int (xc3 13), .int (xc3 14), .int (xc3 15), .long xl3, .int (xc3 17), .int mu3])), (v0, .inr (8, [.int (xv0 0), .int (xv0 1), .int (xv0 2), .int (xv0 3)])), (v1, .inr (8, [.int (xv1 0), .int (xv1 1), .int (xv1 2), .int (xv1 3)])), (v2, .inr (8, [.int (xv2 0), .int (xv2 1), .int (xv2 2), .int (xv2 3)])), (v3, .inr (8, [.int (xv3 0), .int (xv3 1), .int (xv3 2), .int (xv3 3)])), (w0, .inr (8, [.int (xy0 0), .int (xy0 1), .int (xy0 2), .int (xy0 3)])), (w1, .inr (8, [.int (xy1 0), .int (xy1 1), .int (xy1 2), .int (xy1 3)])), (w2, .inr (8, [.int (xy2 0), .int (xy2 1), .int (xy2 2), .int (xy2 3)])), (w3, .inr (8, [.int (xy3 0), .int (xy3 1), .int (xy3 2), .int (xy3 3)]))]) (va_runS (As := [.int x1, .int 4]) (rest := []) ⟨hx, hb, hml, hown, hts⟩ (c_isIn l dC dI H.size x1 4 ) (va_cwS 2 hts (gG_S kw_273 kw_247 kw_2 kw_248) rfl rfl rfl (by decide +kernel) ⟨Nat.le_of_ble_eq_true rfl, Nat.le_of_ble_eq_true rfl⟩) (g_preS hP hD hK hS hA hN hZ [] (by decide) rfl [] rfl) rfl rfl hl.1 rfl (lv_room (Nat.le_of_ble_eq_true rfl)) dX10_channel_2 ⟨Nat.le_of_ble_eq_true rfl, Nat.le_of_ble_eq_true rfl⟩) hP hD hK hS hA [] [0, 1, 2, 3, 4, 5, 6, 7, 8, 9, 10, 11, 12, 13] rfl rfl (by decide +kernel) (by decide +kernel) (fun r_2 w ty1 H locs hw_2 hP hD _ hS => ?_)
  rcases hw_2 with ⟨hu, hr_2, h_2⟩ | ⟨hu, hr_2, h_2⟩
  · cases hu
    have hP : va_P (dC, dI) vwCl [(h, .inr (9, [.ref aT, .ref aB, .ref aS, .ref aR, .ref aF, .ref aC, .ref aX])), (aC, .inl (cC, 4, .inr (.inr (.inr (.inr gc))))), (c0, .inr (1, [.ref aB, .ref v0, .ref w0, .int (xc0 3), .int (xc0 4), .int (xc0 5), .int (xc0 6), .int (xc0 7), .int (xc0 8), .int (xc0 9), .int (xc0 10), .int (xc0 11), .int (xc0 12), .int (xc0 13), .int (xc0 14), .int (xc0 15), .long xl0, .int (xc0 17), .int mu0])), (c1, .inr (1, [.ref aB, .ref v1, .ref w1, .int (xc1 3), .int (xc1 4), .int (xc1 5), .int (xc1 6), .int (xc1 7), .int (xc1 8), .int (xc1 9), .int (xc1 10), .int (xc1 11), .int (xc1 12), .int (xc1 13), .int (xc1 14), .int (xc1 15), .long xl1, .int (xc1 17), .int mu1])), (c2, .inr (1, [.ref aB, .ref v2, .ref w2, .int (xc2 3), .int (xc2 4), .int (xc2 5), .int (xc2 6), .int (xc2 7), .int (xc2 8), .int (xc2 9), .int (xc2 10), .int (xc2 11), .int (xc2 12), .int (xc2 13), .int (xc2 14), .int (xc2 15), .long xl2, .int (xc2 17), .int mu2])), (c3, .inr (1, [.ref aB, .ref v3, .ref w3, .int (xc3 3), .int (xc3 4), .int (xc3 5), .int (xc3 6), .int (xc3 7), .int (xc3 8), .int (xc3 9), .int (xc3 10), .int (xc3 11), .int (xc3 12), .int (xc3 13), .int (xc3 14), .int (xc3 15), .long xl3, .int (xc3 17), .int mu3])), (v0, .inr (8, [.int (xv0 0), .int (xv0 1), .int (xv0 2), .int (xv0 3)])), (v1, .inr (8, [.int (xv1 0), .int (xv1 1), .int (xv1 2), .int (xv1 3)])), (v2, .inr (8, [.int (xv2 0), .int (xv2 1), .int (xv2 2), .int (xv2 3)])), (v3, .inr (8, [.int (xv3 0), .int (xv3 1), .int (xv3 2), .int (xv3 3)])), (w0, .inr (8, [.int (xy0 0), .int (xy0 1), .int (xy0 2), .int (xy0 3)])), (w1, .inr (8, [.int (xy1 0), .int (xy1 1), .int (xy1 2), .int (xy1 3)])), (w2, .inr (8, [.int (xy2 0), .int (xy2 1), .int (xy2 2), .int (xy2 3)])), (w3, .inr (8, [.int (xy3 0), .int (xy3 1), .int (xy3 2), .int (xy3 3)]))] H := hP
    have hD : va_D A [(h, .inr (9, [.ref aT, .ref aB, .ref aS, .ref aR, .ref aF, .ref aC, .ref aX])), (aC, .inl (cC, 4, .inr (.inr (.inr (.inr gc))))), (c0, .inr (1, [.ref aB, .ref v0, .ref w0, .int (xc0 3), .int (xc0 4), .int (xc0 5), .int (xc0 6), .int (xc0 7), .int (xc0 8), .int (xc0 9), .int (xc0 10), .int (xc0 11), .int (xc0 12), .int (xc0 13), .int (xc0 14), .int (xc0 15), .long xl0, .int (xc0 17), .int mu0])), (c1, .inr (1, [.ref aB, .ref v1, .ref w1, .int (xc1 3), .int (xc1 4), .int (xc1 5), .int (xc1 6), .int (xc1 7), .int (xc1 8), .int (xc1 9), .int (xc1 10), .int (xc1 11), .int (xc1 12), .int (xc1 13), .int (xc1 14), .int (xc1 15), .long xl1, .int (xc1 17), .int mu1])), (c2, .inr (1, [.ref aB, .ref v2, .ref w2, .int (xc2 3), .int (xc2 4), .int (xc2 5), .int (xc2 6), .int (xc2 7), .int (xc2 8), .int (xc2 9), .int (xc2 10), .int (xc2 11), .int (xc2 12), .int (xc2 13), .int (xc2 14), .int (xc2 15), .long xl2, .int (xc2 17), .int mu2])), (c3, .inr (1, [.ref aB, .ref v3, .ref w3, .int (xc3 3), .int (xc3 4), .int (xc3 5), .int (xc3 6), .int (xc3 7), .int (xc3 8), .int (xc3 9), .int (xc3 10), .int (xc3 11), .int (xc3 12), .int (xc3 13), .int (xc3 14), .int (xc3 15), .long xl3, .int (xc3 17), .int mu3])), (v0, .inr (8, [.int (xv0 0), .int (xv0 1), .int (xv0 2), .int (xv0 3)])), (v1, .inr (8, [.int (xv1 0), .int (xv1 1), .int (xv1 2), .int (xv1 3)])), (v2, .inr (8, [.int (xv2 0), .int (xv2 1), .int (xv2 2), .int (xv2 3)])), (v3, .inr (8, [.int (xv3 0), .int (xv3 1), .int (xv3 2), .int (xv3 3)])), (w0, .inr (8, [.int (xy0 0), .int (xy0 1), .int (xy0 2), .int (xy0 3)])), (w1, .inr (8, [.int (xy1 0), .int (xy1 1), .int (xy1 2), .int (xy1 3)])), (w2, .inr (8, [.int (xy2 0), .int (xy2 1), .int (xy2 2), .int (xy2 3)])), (w3, .inr (8, [.int (xy3 0), .int (xy3 1), .int (xy3 2), .int (xy3 3)]))] := hD
    refine g_topi (y := 1) hr_2 ?_
    obtain ⟨j, hj, hij⟩ := i_in (n := 4) (by decide) h_2.1 h_2.2
    subst hij
    rcases (show j = 0 ∨ j = 1 ∨ j = 2 ∨ j = 3 by omega) with rfl | rfl | rfl | rfl
    · skip
      refine lv_if_ne (tgt := 10) hx hb dX10_channel_5 (by decide) (fun c_5 => ?_) (fun c_5 => absurd c_5 (by decide))
      refine lv_aload_n hx hb dX10_channel_10 rfl (lv_at hl 0 rfl) ?_
      refine va_get (D := (dC, dI)) (ci := 9) (v := .ref aC) (C := RX10) (T := TX10) (N := 7) hx hb hts iwX10 hown hK hP 0 rfl rfl 5 (by decide) (hts (.fieldLink RX10 48 "ModulePlayer" "channels" "[LModulePlayer$Channel;") (List.mem_cons_of_mem _ kw_37)) (fun _ h9 => h9) rfl dX10_channel_11 ?_
      refine lv_iload_n hx hb dX10_channel_14 rfl (lv_at hl 1 rfl) ?_
      refine g_aald hx hb hK hP 1 0 rfl rfl 0 (by decide) (y := c0) (hc0) (by unfold vp_in; decide) dX10_channel_15 ?_
      refine lv_astore_n (lv' := [(3, .ref c0), (0, .ref h), (1, .int 0), (2, .int x2)]) hx hb dX10_channel_16 rfl hl (by decide) rfl (fun ls hl => ?_)
      refine lv_iload_n hx hb dX10_channel_17 rfl (lv_at hl 3 rfl) ?_
      by_cases hlo_18 : x2.toInt < 0
      · refine lv_tableOut (tgt := 181) hx hb dX10_channel_18 (Or.inl hlo_18) (by decide) ?_
        refine lv_iconst (v := (-1)) hx hb dX10_channel_181 (by decide) ?_
        have hP9 := hP
        have hD9 := hD
        have hK9 := hK.sub (tys' := []) [] rfl
        exact W.iret (v := (-1)) hx hb hr (fun t ht hW => ⟨⟨(-1), _, rfl, rfl, by rw [ht]; exact hP9, va_K.moved hW.alike hK9, hD9⟩, hS.F ht⟩) hS.2.2 dX10_channel_182
      by_cases hhi_18 : 13 < x2.toInt
      · refine lv_tableOut (tgt := 181) hx hb dX10_channel_18 (Or.inr hhi_18) (by decide) ?_
        refine lv_iconst (v := (-1)) hx hb dX10_channel_181 (by decide) ?_
        have hP9 := hP
        have hD9 := hD
        have hK9 := hK.sub (tys' := []) [] rfl
        exact W.iret (v := (-1)) hx hb hr (fun t ht hW => ⟨⟨(-1), _, rfl, rfl, by rw [ht]; exact hP9, va_K.moved hW.alike hK9, hD9⟩, hS.F ht⟩) hS.2.2 dX10_channel_182
      have hsw_18 : x2 = 0 ∨ x2 = 1 ∨ x2 = 2 ∨ x2 = 3 ∨ x2 = 4 ∨ x2 = 5 ∨ x2 = 6 ∨ x2 = 7 ∨ x2 = 8 ∨ x2 = 9 ∨ x2 = 10 ∨ x2 = 11 ∨ x2 = 12 ∨ x2 = 13 := by
        have h1 : x2.toInt = 0 ∨ x2.toInt = 1 ∨ x2.toInt = 2 ∨ x2.toInt = 3 ∨ x2.toInt = 4 ∨ x2.toInt = 5 ∨ x2.toInt = 6 ∨ x2.toInt = 7 ∨ x2.toInt = 8 ∨ x2.toInt = 9 ∨ x2.toInt = 10 ∨ x2.toInt = 11 ∨ x2.toInt = 12 ∨ x2.toInt = 13 := by omega
        rcases h1 with h1 | h1 | h1 | h1 | h1 | h1 | h1 | h1 | h1 | h1 | h1 | h1 | h1 | h1 <;> simp only [i_eq, h1] <;> decide
      rcases hsw_18 with hq | hq | hq | hq | hq | hq | hq | hq | hq | hq | hq | hq | hq | hq
      · refine lv_tableIn (off := 70) (tgt := 88) hx hb dX10_channel_18 (by rw [hq]; decide) (by rw [hq]; decide) (by rw [hq]; decide) (by decide) ?_
        refine lv_aload_n hx hb dX10_channel_88 rfl (lv_at hl 0 rfl) ?_
        refine va_get (D := (dC, dI)) (ci := 1) (v := .int (xc0 4)) (C := RX1) (T := TX1) (N := 19) hx hb hts iwX1 hown hK hP 2 rfl rfl 4 (by decide) (hts (.fieldLink RX10 210 "ModulePlayer$Channel" "sample" "I") (List.mem_cons_of_mem _ kw_943)) (fun _ h9 => h9) rfl dX10_channel_89 ?_
        have hP9 := hP
        have hD9 := hD
        have hK9 := hK.sub (tys' := []) [] rfl
        exact W.iret (v := xc0 4) hx hb hr (fun t ht hW => ⟨⟨xc0 4, _, rfl, rfl, by rw [ht]; exact hP9, va_K.moved hW.alike hK9, hD9⟩, hS.F ht⟩) hS.2.2 dX10_channel_92
      · refine lv_tableIn (off := 75) (tgt := 93) hx hb dX10_channel_18 (by rw [hq]; decide) (by rw [hq]; decide) (by rw [hq]; decide) (by decide) ?_
        refine lv_aload_n hx hb dX10_channel_93 rfl (lv_at hl 0 rfl) ?_
        refine va_get (D := (dC, dI)) (ci := 1) (v := .int (xc0 5)) (C := RX1) (T := TX1) (N := 19) hx hb hts iwX1 hown hK hP 2 rfl rfl 5 (by decide) (hts (.fieldLink RX10 213 "ModulePlayer$Channel" "volume" "I") (List.mem_cons_of_mem _ kw_944)) (fun _ h9 => h9) rfl dX10_channel_94 ?_
        have hP9 := hP
        have hD9 := hD
        have hK9 := hK.sub (tys' := []) [] rfl
        exact W.iret (v := xc0 5) hx hb hr (fun t ht hW => ⟨⟨xc0 5, _, rfl, rfl, by rw [ht]; exact hP9, va_K.moved hW.alike hK9, hD9⟩, hS.F ht⟩) hS.2.2 dX10_channel_97
      · refine lv_tableIn (off := 80) (tgt := 98) hx hb dX10_channel_18 (by rw [hq]; decide) (by rw [hq]; decide) (by rw [hq]; decide) (by decide) ?_
        refine lv_aload_n hx hb dX10_channel_98 rfl (lv_at hl 0 rfl) ?_
        refine va_get (D := (dC, dI)) (ci := 1) (v := .int (xc0 7)) (C := RX1) (T := TX1) (N := 19) hx hb hts iwX1 hown hK hP 2 rfl rfl 7 (by decide) (hts (.fieldLink RX10 216 "ModulePlayer$Channel" "period" "I") (List.mem_cons_of_mem _ kw_945)) (fun _ h9 => h9) rfl dX10_channel_99 ?_
        have hP9 := hP
        have hD9 := hD
        have hK9 := hK.sub (tys' := []) [] rfl
        exact W.iret (v := xc0 7) hx hb hr (fun t ht hW => ⟨⟨xc0 7, _, rfl, rfl, by rw [ht]; exact hP9, va_K.moved hW.alike hK9, hD9⟩, hS.F ht⟩) hS.2.2 dX10_channel_102
      · refine lv_tableIn (off := 85) (tgt := 103) hx hb dX10_channel_18 (by rw [hq]; decide) (by rw [hq]; decide) (by rw [hq]; decide) (by decide) ?_
        refine lv_aload_n hx hb dX10_channel_103 rfl (lv_at hl 0 rfl) ?_
        refine va_get (D := (dC, dI)) (ci := 1) (v := .long xl0) (C := RX1) (T := TX1) (N := 19) hx hb hts iwX1 hown hK hP 2 rfl rfl 16 (by decide) (hts (.fieldLink RX10 219 "ModulePlayer$Channel" "place" "J") (List.mem_cons_of_mem _ kw_946)) (fun _ h9 => h9) rfl dX10_channel_104 ?_
        refine lv_bipush (v := 16) hx hb dX10_channel_107 (by decide) ?_
        refine lv_lshr (v := xl0 >>> ((16 : Int32).toInt64 &&& 63)) hx hb dX10_channel_109 rfl ?_
        refine lv_topl (fun tv_109 etv_109 => ?_)
        refine lv_l2i (v := tv_109.toInt32) hx hb dX10_channel_110 rfl ?_
        refine lv_topi (fun tv_110 etv_110 => ?_)
        have hP9 := hP
        have hD9 := hD
        have hK9 := hK.sub (tys' := []) [] rfl
        exact W.iret (v := tv_110) hx hb hr (fun t ht hW => ⟨⟨tv_110, _, rfl, rfl, by rw [ht]; exact hP9, va_K.moved hW.alike hK9, hD9⟩, hS.F ht⟩) hS.2.2 dX10_channel_111
      · refine lv_tableIn (off := 94) (tgt := 112) hx hb dX10_channel_18 (by rw [hq]; decide) (by rw [hq]; decide) (by rw [hq]; decide) (by decide) ?_
        refine lv_aload_n hx hb dX10_channel_112 rfl (lv_at hl 0 rfl) ?_
        refine va_get (D := (dC, dI)) (ci := 1) (v := .int (xc0 17)) (C := RX1) (T := TX1) (N := 19) hx hb hts iwX1 hown hK hP 2 rfl rfl 17 (by decide) (hts (.fieldLink RX10 222 "ModulePlayer$Channel" "sounds" "Z") (List.mem_cons_of_mem _ kw_947)) (fun _ h9 => h9) rfl dX10_channel_113 ?_
        refine lv_if_eq (tgt := 123) hx hb dX10_channel_116 (by decide) (fun c_116 => ?_) (fun c_116 => ?_)
        · refine lv_iconst (v := 0) hx hb dX10_channel_123 (by decide) ?_
          have hP9 := hP
          have hD9 := hD
          have hK9 := hK.sub (tys' := []) [] rfl
          exact W.iret (v := 0) hx hb hr (fun t ht hW => ⟨⟨0, _, rfl, rfl, by rw [ht]; exact hP9, va_K.moved hW.alike hK9, hD9⟩, hS.F ht⟩) hS.2.2 dX10_channel_124
        refine lv_iconst (v := 1) hx hb dX10_channel_119 (by decide) ?_
        refine lv_goto (tgt := 124) hx hb dX10_channel_120 (by decide) ?_
        have hP9 := hP
        have hD9 := hD
        have hK9 := hK.sub (tys' := []) [] rfl
        exact W.iret (v := 1) hx hb hr (fun t ht hW => ⟨⟨1, _, rfl, rfl, by rw [ht]; exact hP9, va_K.moved hW.alike hK9, hD9⟩, hS.F ht⟩) hS.2.2 dX10_channel_124
      · refine lv_tableIn (off := 107) (tgt := 125) hx hb dX10_channel_18 (by rw [hq]; decide) (by rw [hq]; decide) (by rw [hq]; decide) (by decide) ?_
        refine lv_aload_n hx hb dX10_channel_125 rfl (lv_at hl 0 rfl) ?_
        refine va_get (D := (dC, dI)) (ci := 1) (v := .int (xc0 14)) (C := RX1) (T := TX1) (N := 19) hx hb hts iwX1 hown hK hP 2 rfl rfl 14 (by decide) (hts (.fieldLink RX10 225 "ModulePlayer$Channel" "heardPeriod" "I") (List.mem_cons_of_mem _ kw_948)) (fun _ h9 => h9) rfl dX10_channel_126 ?_
        have hP9 := hP
        have hD9 := hD
        have hK9 := hK.sub (tys' := []) [] rfl
        exact W.iret (v := xc0 14) hx hb hr (fun t ht hW => ⟨⟨xc0 14, _, rfl, rfl, by rw [ht]; exact hP9, va_K.moved hW.alike hK9, hD9⟩, hS.F ht⟩) hS.2.2 dX10_channel_129
      · refine lv_tableIn (off := 112) (tgt := 130) hx hb dX10_channel_18 (by rw [hq]; decide) (by rw [hq]; decide) (by rw [hq]; decide) (by decide) ?_
        refine lv_aload_n hx hb dX10_channel_130 rfl (lv_at hl 0 rfl) ?_
        refine va_get (D := (dC, dI)) (ci := 1) (v := .int (xc0 15)) (C := RX1) (T := TX1) (N := 19) hx hb hts iwX1 hown hK hP 2 rfl rfl 15 (by decide) (hts (.fieldLink RX10 228 "ModulePlayer$Channel" "heardVolume" "I") (List.mem_cons_of_mem _ kw_949)) (fun _ h9 => h9) rfl dX10_channel_131 ?_
        have hP9 := hP
        have hD9 := hD
        have hK9 := hK.sub (tys' := []) [] rfl
        exact W.iret (v := xc0 15) hx hb hr (fun t ht hW => ⟨⟨xc0 15, _, rfl, rfl, by rw [ht]; exact hP9, va_K.moved hW.alike hK9, hD9⟩, hS.F ht⟩) hS.2.2 dX10_channel_134
      · refine lv_tableIn (off := 117) (tgt := 135) hx hb dX10_channel_18 (by rw [hq]; decide) (by rw [hq]; decide) (by rw [hq]; decide) (by decide) ?_
        refine lv_aload_n hx hb dX10_channel_135 rfl (lv_at hl 0 rfl) ?_
        refine va_get (D := (dC, dI)) (ci := 1) (v := .int (xc0 6)) (C := RX1) (T := TX1) (N := 19) hx hb hts iwX1 hown hK hP 2 rfl rfl 6 (by decide) (hts (.fieldLink RX10 231 "ModulePlayer$Channel" "tune" "I") (List.mem_cons_of_mem _ kw_950)) (fun _ h9 => h9) rfl dX10_channel_136 ?_
        have hP9 := hP
        have hD9 := hD
        have hK9 := hK.sub (tys' := []) [] rfl
        exact W.iret (v := xc0 6) hx hb hr (fun t ht hW => ⟨⟨xc0 6, _, rfl, rfl, by rw [ht]; exact hP9, va_K.moved hW.alike hK9, hD9⟩, hS.F ht⟩) hS.2.2 dX10_channel_139
      · refine lv_tableIn (off := 122) (tgt := 140) hx hb dX10_channel_18 (by rw [hq]; decide) (by rw [hq]; decide) (by rw [hq]; decide) (by decide) ?_
        refine lv_aload_n hx hb dX10_channel_140 rfl (lv_at hl 0 rfl) ?_
        refine va_get (D := (dC, dI)) (ci := 1) (v := .int (xc0 9)) (C := RX1) (T := TX1) (N := 19) hx hb hts iwX1 hown hK hP 2 rfl rfl 9 (by decide) (hts (.fieldLink RX10 234 "ModulePlayer$Channel" "target" "I") (List.mem_cons_of_mem _ kw_951)) (fun _ h9 => h9) rfl dX10_channel_141 ?_
        have hP9 := hP
        have hD9 := hD
        have hK9 := hK.sub (tys' := []) [] rfl
        exact W.iret (v := xc0 9) hx hb hr (fun t ht hW => ⟨⟨xc0 9, _, rfl, rfl, by rw [ht]; exact hP9, va_K.moved hW.alike hK9, hD9⟩, hS.F ht⟩) hS.2.2 dX10_channel_144
      · refine lv_tableIn (off := 127) (tgt := 145) hx hb dX10_channel_18 (by rw [hq]; decide) (by rw [hq]; decide) (by rw [hq]; decide) (by decide) ?_
        refine lv_aload_n hx hb dX10_channel_145 rfl (lv_at hl 0 rfl) ?_
        refine va_get (D := (dC, dI)) (ci := 1) (v := .long xl0) (C := RX1) (T := TX1) (N := 19) hx hb hts iwX1 hown hK hP 2 rfl rfl 16 (by decide) (hts (.fieldLink RX10 219 "ModulePlayer$Channel" "place" "J") (List.mem_cons_of_mem _ kw_946)) (fun _ h9 => h9) rfl dX10_channel_146 ?_
        refine lv_ldc2 (v := 65535) hx hb hown (hts (.constantLong RX10 237 (65535)) (List.mem_cons_of_mem _ kw_952)) dX10_channel_149 ?_
        refine lv_land hx hb dX10_channel_152 ?_
        refine lv_topl (fun tv_152 etv_152 => ?_)
        refine lv_l2i (v := tv_152.toInt32) hx hb dX10_channel_153 rfl ?_
        refine lv_topi (fun tv_153 etv_153 => ?_)
        have hP9 := hP
        have hD9 := hD
        have hK9 := hK.sub (tys' := []) [] rfl
        exact W.iret (v := tv_153) hx hb hr (fun t ht hW => ⟨⟨tv_153, _, rfl, rfl, by rw [ht]; exact hP9, va_K.moved hW.alike hK9, hD9⟩, hS.F ht⟩) hS.2.2 dX10_channel_154
      · refine lv_tableIn (off := 137) (tgt := 155) hx hb dX10_channel_18 (by rw [hq]; decide) (by rw [hq]; decide) (by rw [hq]; decide) (by decide) ?_
        refine lv_aload_n hx hb dX10_channel_155 rfl (lv_at hl 0 rfl) ?_
        refine va_get (D := (dC, dI)) (ci := 1) (v := .ref v0) (C := RX1) (T := TX1) (N := 19) hx hb hts iwX1 hown hK hP 2 rfl rfl 1 (by decide) (hts (.fieldLink RX10 239 "ModulePlayer$Channel" "vibrato" "LModulePlayer$Wobble;") (List.mem_cons_of_mem _ kw_953)) (fun _ h9 => h9) rfl dX10_channel_156 ?_
        refine va_get (D := (dC, dI)) (ci := 8) (v := .int (xv0 2)) (C := RX8) (T := TX8) (N := 4) hx hb hts iwX8 hown hK hP 6 rfl rfl 2 (by decide) (hts (.fieldLink RX10 243 "ModulePlayer$Wobble" "place" "I") (List.mem_cons_of_mem _ kw_954)) (fun _ h9 => h9) rfl dX10_channel_159 ?_
        have hP9 := hP
        have hD9 := hD
        have hK9 := hK.sub (tys' := []) [] rfl
        exact W.iret (v := xv0 2) hx hb hr (fun t ht hW => ⟨⟨xv0 2, _, rfl, rfl, by rw [ht]; exact hP9, va_K.moved hW.alike hK9, hD9⟩, hS.F ht⟩) hS.2.2 dX10_channel_162
      · refine lv_tableIn (off := 145) (tgt := 163) hx hb dX10_channel_18 (by rw [hq]; decide) (by rw [hq]; decide) (by rw [hq]; decide) (by decide) ?_
        refine lv_aload_n hx hb dX10_channel_163 rfl (lv_at hl 0 rfl) ?_
        refine va_get (D := (dC, dI)) (ci := 1) (v := .ref w0) (C := RX1) (T := TX1) (N := 19) hx hb hts iwX1 hown hK hP 2 rfl rfl 2 (by decide) (hts (.fieldLink RX10 246 "ModulePlayer$Channel" "tremolo" "LModulePlayer$Wobble;") (List.mem_cons_of_mem _ kw_955)) (fun _ h9 => h9) rfl dX10_channel_164 ?_
        refine va_get (D := (dC, dI)) (ci := 8) (v := .int (xy0 2)) (C := RX8) (T := TX8) (N := 4) hx hb hts iwX8 hown hK hP 10 rfl rfl 2 (by decide) (hts (.fieldLink RX10 243 "ModulePlayer$Wobble" "place" "I") (List.mem_cons_of_mem _ kw_954)) (fun _ h9 => h9) rfl dX10_channel_167 ?_
        have hP9 := hP
        have hD9 := hD
        have hK9 := hK.sub (tys' := []) [] rfl
        exact W.iret (v := xy0 2) hx hb hr (fun t ht hW => ⟨⟨xy0 2, _, rfl, rfl, by rw [ht]; exact hP9, va_K.moved hW.alike hK9, hD9⟩, hS.F ht⟩) hS.2.2 dX10_channel_170
      · refine lv_tableIn (off := 153) (tgt := 171) hx hb dX10_channel_18 (by rw [hq]; decide) (by rw [hq]; decide) (by rw [hq]; decide) (by decide) ?_
        refine lv_aload_n hx hb dX10_channel_171 rfl (lv_at hl 0 rfl) ?_
        refine va_get (D := (dC, dI)) (ci := 1) (v := .int (xc0 12)) (C := RX1) (T := TX1) (N := 19) hx hb hts iwX1 hown hK hP 2 rfl rfl 12 (by decide) (hts (.fieldLink RX10 249 "ModulePlayer$Channel" "loopRow" "I") (List.mem_cons_of_mem _ kw_956)) (fun _ h9 => h9) rfl dX10_channel_172 ?_
        have hP9 := hP
        have hD9 := hD
        have hK9 := hK.sub (tys' := []) [] rfl
        exact W.iret (v := xc0 12) hx hb hr (fun t ht hW => ⟨⟨xc0 12, _, rfl, rfl, by rw [ht]; exact hP9, va_K.moved hW.alike hK9, hD9⟩, hS.F ht⟩) hS.2.2 dX10_channel_175
      · refine lv_tableIn (off := 158) (tgt := 176) hx hb dX10_channel_18 (by rw [hq]; decide) (by rw [hq]; decide) (by rw [hq]; decide) (by decide) ?_
        refine lv_aload_n hx hb dX10_channel_176 rfl (lv_at hl 0 rfl) ?_
        refine va_get (D := (dC, dI)) (ci := 1) (v := .int (xc0 13)) (C := RX1) (T := TX1) (N := 19) hx hb hts iwX1 hown hK hP 2 rfl rfl 13 (by decide) (hts (.fieldLink RX10 252 "ModulePlayer$Channel" "loopLeft" "I") (List.mem_cons_of_mem _ kw_957)) (fun _ h9 => h9) rfl dX10_channel_177 ?_
        have hP9 := hP
        have hD9 := hD
        have hK9 := hK.sub (tys' := []) [] rfl
        exact W.iret (v := xc0 13) hx hb hr (fun t ht hW => ⟨⟨xc0 13, _, rfl, rfl, by rw [ht]; exact hP9, va_K.moved hW.alike hK9, hD9⟩, hS.F ht⟩) hS.2.2 dX10_channel_180
    · skip
      refine lv_if_ne (tgt := 10) hx hb dX10_channel_5 (by decide) (fun c_5 => ?_) (fun c_5 => absurd c_5 (by decide))
      refine lv_aload_n hx hb dX10_channel_10 rfl (lv_at hl 0 rfl) ?_
      refine va_get (D := (dC, dI)) (ci := 9) (v := .ref aC) (C := RX10) (T := TX10) (N := 7) hx hb hts iwX10 hown hK hP 0 rfl rfl 5 (by decide) (hts (.fieldLink RX10 48 "ModulePlayer" "channels" "[LModulePlayer$Channel;") (List.mem_cons_of_mem _ kw_37)) (fun _ h9 => h9) rfl dX10_channel_11 ?_
      refine lv_iload_n hx hb dX10_channel_14 rfl (lv_at hl 1 rfl) ?_
      refine g_aald hx hb hK hP 1 0 rfl rfl 1 (by decide) (y := c1) (hc1) (by unfold vp_in; decide) dX10_channel_15 ?_
      refine lv_astore_n (lv' := [(3, .ref c1), (0, .ref h), (1, .int 1), (2, .int x2)]) hx hb dX10_channel_16 rfl hl (by decide) rfl (fun ls hl => ?_)
      refine lv_iload_n hx hb dX10_channel_17 rfl (lv_at hl 3 rfl) ?_
      by_cases hlo_18 : x2.toInt < 0
      · refine lv_tableOut (tgt := 181) hx hb dX10_channel_18 (Or.inl hlo_18) (by decide) ?_
        refine lv_iconst (v := (-1)) hx hb dX10_channel_181 (by decide) ?_
        have hP9 := hP
        have hD9 := hD
        have hK9 := hK.sub (tys' := []) [] rfl
        exact W.iret (v := (-1)) hx hb hr (fun t ht hW => ⟨⟨(-1), _, rfl, rfl, by rw [ht]; exact hP9, va_K.moved hW.alike hK9, hD9⟩, hS.F ht⟩) hS.2.2 dX10_channel_182
      by_cases hhi_18 : 13 < x2.toInt
      · refine lv_tableOut (tgt := 181) hx hb dX10_channel_18 (Or.inr hhi_18) (by decide) ?_
        refine lv_iconst (v := (-1)) hx hb dX10_channel_181 (by decide) ?_
        have hP9 := hP
        have hD9 := hD
        have hK9 := hK.sub (tys' := []) [] rfl
        exact W.iret (v := (-1)) hx hb hr (fun t ht hW => ⟨⟨(-1), _, rfl, rfl, by rw [ht]; exact hP9, va_K.moved hW.alike hK9, hD9⟩, hS.F ht⟩) hS.2.2 dX10_channel_182
      have hsw_18 : x2 = 0 ∨ x2 = 1 ∨ x2 = 2 ∨ x2 = 3 ∨ x2 = 4 ∨ x2 = 5 ∨ x2 = 6 ∨ x2 = 7 ∨ x2 = 8 ∨ x2 = 9 ∨ x2 = 10 ∨ x2 = 11 ∨ x2 = 12 ∨ x2 = 13 := by
        have h1 : x2.toInt = 0 ∨ x2.toInt = 1 ∨ x2.toInt = 2 ∨ x2.toInt = 3 ∨ x2.toInt = 4 ∨ x2.toInt = 5 ∨ x2.toInt = 6 ∨ x2.toInt = 7 ∨ x2.toInt = 8 ∨ x2.toInt = 9 ∨ x2.toInt = 10 ∨ x2.toInt = 11 ∨ x2.toInt = 12 ∨ x2.toInt = 13 := by omega
        rcases h1 with h1 | h1 | h1 | h1 | h1 | h1 | h1 | h1 | h1 | h1 | h1 | h1 | h1 | h1 <;> simp only [i_eq, h1] <;> decide
      rcases hsw_18 with hq | hq | hq | hq | hq | hq | hq | hq | hq | hq | hq | hq | hq | hq
      · refine lv_tableIn (off := 70) (tgt := 88) hx hb dX10_channel_18 (by rw [hq]; decide) (by rw [hq]; decide) (by rw [hq]; decide) (by decide) ?_
        refine lv_aload_n hx hb dX10_channel_88 rfl (lv_at hl 0 rfl) ?_
        refine va_get (D := (dC, dI)) (ci := 1) (v := .int (xc1 4)) (C := RX1) (T := TX1) (N := 19) hx hb hts iwX1 hown hK hP 3 rfl rfl 4 (by decide) (hts (.fieldLink RX10 210 "ModulePlayer$Channel" "sample" "I") (List.mem_cons_of_mem _ kw_943)) (fun _ h9 => h9) rfl dX10_channel_89 ?_
        have hP9 := hP
        have hD9 := hD
        have hK9 := hK.sub (tys' := []) [] rfl
        exact W.iret (v := xc1 4) hx hb hr (fun t ht hW => ⟨⟨xc1 4, _, rfl, rfl, by rw [ht]; exact hP9, va_K.moved hW.alike hK9, hD9⟩, hS.F ht⟩) hS.2.2 dX10_channel_92
      · refine lv_tableIn (off := 75) (tgt := 93) hx hb dX10_channel_18 (by rw [hq]; decide) (by rw [hq]; decide) (by rw [hq]; decide) (by decide) ?_
        refine lv_aload_n hx hb dX10_channel_93 rfl (lv_at hl 0 rfl) ?_
        refine va_get (D := (dC, dI)) (ci := 1) (v := .int (xc1 5)) (C := RX1) (T := TX1) (N := 19) hx hb hts iwX1 hown hK hP 3 rfl rfl 5 (by decide) (hts (.fieldLink RX10 213 "ModulePlayer$Channel" "volume" "I") (List.mem_cons_of_mem _ kw_944)) (fun _ h9 => h9) rfl dX10_channel_94 ?_
        have hP9 := hP
        have hD9 := hD
        have hK9 := hK.sub (tys' := []) [] rfl
        exact W.iret (v := xc1 5) hx hb hr (fun t ht hW => ⟨⟨xc1 5, _, rfl, rfl, by rw [ht]; exact hP9, va_K.moved hW.alike hK9, hD9⟩, hS.F ht⟩) hS.2.2 dX10_channel_97
      · refine lv_tableIn (off := 80) (tgt := 98) hx hb dX10_channel_18 (by rw [hq]; decide) (by rw [hq]; decide) (by rw [hq]; decide) (by decide) ?_
        refine lv_aload_n hx hb dX10_channel_98 rfl (lv_at hl 0 rfl) ?_
        refine va_get (D := (dC, dI)) (ci := 1) (v := .int (xc1 7)) (C := RX1) (T := TX1) (N := 19) hx hb hts iwX1 hown hK hP 3 rfl rfl 7 (by decide) (hts (.fieldLink RX10 216 "ModulePlayer$Channel" "period" "I") (List.mem_cons_of_mem _ kw_945)) (fun _ h9 => h9) rfl dX10_channel_99 ?_
        have hP9 := hP
        have hD9 := hD
        have hK9 := hK.sub (tys' := []) [] rfl
        exact W.iret (v := xc1 7) hx hb hr (fun t ht hW => ⟨⟨xc1 7, _, rfl, rfl, by rw [ht]; exact hP9, va_K.moved hW.alike hK9, hD9⟩, hS.F ht⟩) hS.2.2 dX10_channel_102
      · refine lv_tableIn (off := 85) (tgt := 103) hx hb dX10_channel_18 (by rw [hq]; decide) (by rw [hq]; decide) (by rw [hq]; decide) (by decide) ?_
        refine lv_aload_n hx hb dX10_channel_103 rfl (lv_at hl 0 rfl) ?_
        refine va_get (D := (dC, dI)) (ci := 1) (v := .long xl1) (C := RX1) (T := TX1) (N := 19) hx hb hts iwX1 hown hK hP 3 rfl rfl 16 (by decide) (hts (.fieldLink RX10 219 "ModulePlayer$Channel" "place" "J") (List.mem_cons_of_mem _ kw_946)) (fun _ h9 => h9) rfl dX10_channel_104 ?_
        refine lv_bipush (v := 16) hx hb dX10_channel_107 (by decide) ?_
        refine lv_lshr (v := xl1 >>> ((16 : Int32).toInt64 &&& 63)) hx hb dX10_channel_109 rfl ?_
        refine lv_topl (fun tv_109 etv_109 => ?_)
        refine lv_l2i (v := tv_109.toInt32) hx hb dX10_channel_110 rfl ?_
        refine lv_topi (fun tv_110 etv_110 => ?_)
        have hP9 := hP
        have hD9 := hD
        have hK9 := hK.sub (tys' := []) [] rfl
        exact W.iret (v := tv_110) hx hb hr (fun t ht hW => ⟨⟨tv_110, _, rfl, rfl, by rw [ht]; exact hP9, va_K.moved hW.alike hK9, hD9⟩, hS.F ht⟩) hS.2.2 dX10_channel_111
      · refine lv_tableIn (off := 94) (tgt := 112) hx hb dX10_channel_18 (by rw [hq]; decide) (by rw [hq]; decide) (by rw [hq]; decide) (by decide) ?_
        refine lv_aload_n hx hb dX10_channel_112 rfl (lv_at hl 0 rfl) ?_
        refine va_get (D := (dC, dI)) (ci := 1) (v := .int (xc1 17)) (C := RX1) (T := TX1) (N := 19) hx hb hts iwX1 hown hK hP 3 rfl rfl 17 (by decide) (hts (.fieldLink RX10 222 "ModulePlayer$Channel" "sounds" "Z") (List.mem_cons_of_mem _ kw_947)) (fun _ h9 => h9) rfl dX10_channel_113 ?_
        refine lv_if_eq (tgt := 123) hx hb dX10_channel_116 (by decide) (fun c_116 => ?_) (fun c_116 => ?_)
        · refine lv_iconst (v := 0) hx hb dX10_channel_123 (by decide) ?_
          have hP9 := hP
          have hD9 := hD
          have hK9 := hK.sub (tys' := []) [] rfl
          exact W.iret (v := 0) hx hb hr (fun t ht hW => ⟨⟨0, _, rfl, rfl, by rw [ht]; exact hP9, va_K.moved hW.alike hK9, hD9⟩, hS.F ht⟩) hS.2.2 dX10_channel_124
        refine lv_iconst (v := 1) hx hb dX10_channel_119 (by decide) ?_
        refine lv_goto (tgt := 124) hx hb dX10_channel_120 (by decide) ?_
        have hP9 := hP
        have hD9 := hD
        have hK9 := hK.sub (tys' := []) [] rfl
        exact W.iret (v := 1) hx hb hr (fun t ht hW => ⟨⟨1, _, rfl, rfl, by rw [ht]; exact hP9, va_K.moved hW.alike hK9, hD9⟩, hS.F ht⟩) hS.2.2 dX10_channel_124
      · refine lv_tableIn (off := 107) (tgt := 125) hx hb dX10_channel_18 (by rw [hq]; decide) (by rw [hq]; decide) (by rw [hq]; decide) (by decide) ?_
        refine lv_aload_n hx hb dX10_channel_125 rfl (lv_at hl 0 rfl) ?_
        refine va_get (D := (dC, dI)) (ci := 1) (v := .int (xc1 14)) (C := RX1) (T := TX1) (N := 19) hx hb hts iwX1 hown hK hP 3 rfl rfl 14 (by decide) (hts (.fieldLink RX10 225 "ModulePlayer$Channel" "heardPeriod" "I") (List.mem_cons_of_mem _ kw_948)) (fun _ h9 => h9) rfl dX10_channel_126 ?_
        have hP9 := hP
        have hD9 := hD
        have hK9 := hK.sub (tys' := []) [] rfl
        exact W.iret (v := xc1 14) hx hb hr (fun t ht hW => ⟨⟨xc1 14, _, rfl, rfl, by rw [ht]; exact hP9, va_K.moved hW.alike hK9, hD9⟩, hS.F ht⟩) hS.2.2 dX10_channel_129
      · refine lv_tableIn (off := 112) (tgt := 130) hx hb dX10_channel_18 (by rw [hq]; decide) (by rw [hq]; decide) (by rw [hq]; decide) (by decide) ?_
        refine lv_aload_n hx hb dX10_channel_130 rfl (lv_at hl 0 rfl) ?_
        refine va_get (D := (dC, dI)) (ci := 1) (v := .int (xc1 15)) (C := RX1) (T := TX1) (N := 19) hx hb hts iwX1 hown hK hP 3 rfl rfl 15 (by decide) (hts (.fieldLink RX10 228 "ModulePlayer$Channel" "heardVolume" "I") (List.mem_cons_of_mem _ kw_949)) (fun _ h9 => h9) rfl dX10_channel_131 ?_
        have hP9 := hP
        have hD9 := hD
        have hK9 := hK.sub (tys' := []) [] rfl
        exact W.iret (v := xc1 15) hx hb hr (fun t ht hW => ⟨⟨xc1 15, _, rfl, rfl, by rw [ht]; exact hP9, va_K.moved hW.alike hK9, hD9⟩, hS.F ht⟩) hS.2.2 dX10_channel_134
      · refine lv_tableIn (off := 117) (tgt := 135) hx hb dX10_channel_18 (by rw [hq]; decide) (by rw [hq]; decide) (by rw [hq]; decide) (by decide) ?_
        refine lv_aload_n hx hb dX10_channel_135 rfl (lv_at hl 0 rfl) ?_
        refine va_get (D := (dC, dI)) (ci := 1) (v := .int (xc1 6)) (C := RX1) (T := TX1) (N := 19) hx hb hts iwX1 hown hK hP 3 rfl rfl 6 (by decide) (hts (.fieldLink RX10 231 "ModulePlayer$Channel" "tune" "I") (List.mem_cons_of_mem _ kw_950)) (fun _ h9 => h9) rfl dX10_channel_136 ?_
        have hP9 := hP
        have hD9 := hD
        have hK9 := hK.sub (tys' := []) [] rfl
        exact W.iret (v := xc1 6) hx hb hr (fun t ht hW => ⟨⟨xc1 6, _, rfl, rfl, by rw [ht]; exact hP9, va_K.moved hW.alike hK9, hD9⟩, hS.F ht⟩) hS.2.2 dX10_channel_139
      · refine lv_tableIn (off := 122) (tgt := 140) hx hb dX10_channel_18 (by rw [hq]; decide) (by rw [hq]; decide) (by rw [hq]; decide) (by decide) ?_
        refine lv_aload_n hx hb dX10_channel_140 rfl (lv_at hl 0 rfl) ?_
        refine va_get (D := (dC, dI)) (ci := 1) (v := .int (xc1 9)) (C := RX1) (T := TX1) (N := 19) hx hb hts iwX1 hown hK hP 3 rfl rfl 9 (by decide) (hts (.fieldLink RX10 234 "ModulePlayer$Channel" "target" "I") (List.mem_cons_of_mem _ kw_951)) (fun _ h9 => h9) rfl dX10_channel_141 ?_
        have hP9 := hP
        have hD9 := hD
        have hK9 := hK.sub (tys' := []) [] rfl
        exact W.iret (v := xc1 9) hx hb hr (fun t ht hW => ⟨⟨xc1 9, _, rfl, rfl, by rw [ht]; exact hP9, va_K.moved hW.alike hK9, hD9⟩, hS.F ht⟩) hS.2.2 dX10_channel_144
      · refine lv_tableIn (off := 127) (tgt := 145) hx hb dX10_channel_18 (by rw [hq]; decide) (by rw [hq]; decide) (by rw [hq]; decide) (by decide) ?_
        refine lv_aload_n hx hb dX10_channel_145 rfl (lv_at hl 0 rfl) ?_
        refine va_get (D := (dC, dI)) (ci := 1) (v := .long xl1) (C := RX1) (T := TX1) (N := 19) hx hb hts iwX1 hown hK hP 3 rfl rfl 16 (by decide) (hts (.fieldLink RX10 219 "ModulePlayer$Channel" "place" "J") (List.mem_cons_of_mem _ kw_946)) (fun _ h9 => h9) rfl dX10_channel_146 ?_
        refine lv_ldc2 (v := 65535) hx hb hown (hts (.constantLong RX10 237 (65535)) (List.mem_cons_of_mem _ kw_952)) dX10_channel_149 ?_
        refine lv_land hx hb dX10_channel_152 ?_
        refine lv_topl (fun tv_152 etv_152 => ?_)
        refine lv_l2i (v := tv_152.toInt32) hx hb dX10_channel_153 rfl ?_
        refine lv_topi (fun tv_153 etv_153 => ?_)
        have hP9 := hP
        have hD9 := hD
        have hK9 := hK.sub (tys' := []) [] rfl
        exact W.iret (v := tv_153) hx hb hr (fun t ht hW => ⟨⟨tv_153, _, rfl, rfl, by rw [ht]; exact hP9, va_K.moved hW.alike hK9, hD9⟩, hS.F ht⟩) hS.2.2 dX10_channel_154
      · refine lv_tableIn (off := 137) (tgt := 155) hx hb dX10_channel_18 (by rw [hq]; decide) (by rw [hq]; decide) (by rw [hq]; decide) (by decide) ?_
        refine lv_aload_n hx hb dX10_channel_155 rfl (lv_at hl 0 rfl) ?_
        refine va_get (D := (dC, dI)) (ci := 1) (v := .ref v1) (C := RX1) (T := TX1) (N := 19) hx hb hts iwX1 hown hK hP 3 rfl rfl 1 (by decide) (hts (.fieldLink RX10 239 "ModulePlayer$Channel" "vibrato" "LModulePlayer$Wobble;") (List.mem_cons_of_mem _ kw_953)) (fun _ h9 => h9) rfl dX10_channel_156 ?_
        refine va_get (D := (dC, dI)) (ci := 8) (v := .int (xv1 2)) (C := RX8) (T := TX8) (N := 4) hx hb hts iwX8 hown hK hP 7 rfl rfl 2 (by decide) (hts (.fieldLink RX10 243 "ModulePlayer$Wobble" "place" "I") (List.mem_cons_of_mem _ kw_954)) (fun _ h9 => h9) rfl dX10_channel_159 ?_
        have hP9 := hP
        have hD9 := hD
        have hK9 := hK.sub (tys' := []) [] rfl
        exact W.iret (v := xv1 2) hx hb hr (fun t ht hW => ⟨⟨xv1 2, _, rfl, rfl, by rw [ht]; exact hP9, va_K.moved hW.alike hK9, hD9⟩, hS.F ht⟩) hS.2.2 dX10_channel_162
      · refine lv_tableIn (off := 145) (tgt := 163) hx hb dX10_channel_18 (by rw [hq]; decide) (by rw [hq]; decide) (by rw [hq]; decide) (by decide) ?_
        refine lv_aload_n hx hb dX10_channel_163 rfl (lv_at hl 0 rfl) ?_
        refine va_get (D := (dC, dI)) (ci := 1) (v := .ref w1) (C := RX1) (T := TX1) (N := 19) hx hb hts iwX1 hown hK hP 3 rfl rfl 2 (by decide) (hts (.fieldLink RX10 246 "ModulePlayer$Channel" "tremolo" "LModulePlayer$Wobble;") (List.mem_cons_of_mem _ kw_955)) (fun _ h9 => h9) rfl dX10_channel_164 ?_
        refine va_get (D := (dC, dI)) (ci := 8) (v := .int (xy1 2)) (C := RX8) (T := TX8) (N := 4) hx hb hts iwX8 hown hK hP 11 rfl rfl 2 (by decide) (hts (.fieldLink RX10 243 "ModulePlayer$Wobble" "place" "I") (List.mem_cons_of_mem _ kw_954)) (fun _ h9 => h9) rfl dX10_channel_167 ?_
        have hP9 := hP
        have hD9 := hD
        have hK9 := hK.sub (tys' := []) [] rfl
        exact W.iret (v := xy1 2) hx hb hr (fun t ht hW => ⟨⟨xy1 2, _, rfl, rfl, by rw [ht]; exact hP9, va_K.moved hW.alike hK9, hD9⟩, hS.F ht⟩) hS.2.2 dX10_channel_170
      · refine lv_tableIn (off := 153) (tgt := 171) hx hb dX10_channel_18 (by rw [hq]; decide) (by rw [hq]; decide) (by rw [hq]; decide) (by decide) ?_
        refine lv_aload_n hx hb dX10_channel_171 rfl (lv_at hl 0 rfl) ?_
        refine va_get (D := (dC, dI)) (ci := 1) (v := .int (xc1 12)) (C := RX1) (T := TX1) (N := 19) hx hb hts iwX1 hown hK hP 3 rfl rfl 12 (by decide) (hts (.fieldLink RX10 249 "ModulePlayer$Channel" "loopRow" "I") (List.mem_cons_of_mem _ kw_956)) (fun _ h9 => h9) rfl dX10_channel_172 ?_
        have hP9 := hP
        have hD9 := hD
        have hK9 := hK.sub (tys' := []) [] rfl
        exact W.iret (v := xc1 12) hx hb hr (fun t ht hW => ⟨⟨xc1 12, _, rfl, rfl, by rw [ht]; exact hP9, va_K.moved hW.alike hK9, hD9⟩, hS.F ht⟩) hS.2.2 dX10_channel_175
      · refine lv_tableIn (off := 158) (tgt := 176) hx hb dX10_channel_18 (by rw [hq]; decide) (by rw [hq]; decide) (by rw [hq]; decide) (by decide) ?_
        refine lv_aload_n hx hb dX10_channel_176 rfl (lv_at hl 0 rfl) ?_
        refine va_get (D := (dC, dI)) (ci := 1) (v := .int (xc1 13)) (C := RX1) (T := TX1) (N := 19) hx hb hts iwX1 hown hK hP 3 rfl rfl 13 (by decide) (hts (.fieldLink RX10 252 "ModulePlayer$Channel" "loopLeft" "I") (List.mem_cons_of_mem _ kw_957)) (fun _ h9 => h9) rfl dX10_channel_177 ?_
        have hP9 := hP
        have hD9 := hD
        have hK9 := hK.sub (tys' := []) [] rfl
        exact W.iret (v := xc1 13) hx hb hr (fun t ht hW => ⟨⟨xc1 13, _, rfl, rfl, by rw [ht]; exact hP9, va_K.moved hW.alike hK9, hD9⟩, hS.F ht⟩) hS.2.2 dX10_channel_180
    · skip
      refine lv_if_ne (tgt := 10) hx hb dX10_channel_5 (by decide) (fun c_5 => ?_) (fun c_5 => absurd c_5 (by decide))
      refine lv_aload_n hx hb dX10_channel_10 rfl (lv_at hl 0 rfl) ?_
      refine va_get (D := (dC, dI)) (ci := 9) (v := .ref aC) (C := RX10) (T := TX10) (N := 7) hx hb hts iwX10 hown hK hP 0 rfl rfl 5 (by decide) (hts (.fieldLink RX10 48 "ModulePlayer" "channels" "[LModulePlayer$Channel;") (List.mem_cons_of_mem _ kw_37)) (fun _ h9 => h9) rfl dX10_channel_11 ?_
      refine lv_iload_n hx hb dX10_channel_14 rfl (lv_at hl 1 rfl) ?_
      refine g_aald hx hb hK hP 1 0 rfl rfl 2 (by decide) (y := c2) (hc2) (by unfold vp_in; decide) dX10_channel_15 ?_
      refine lv_astore_n (lv' := [(3, .ref c2), (0, .ref h), (1, .int 2), (2, .int x2)]) hx hb dX10_channel_16 rfl hl (by decide) rfl (fun ls hl => ?_)
      refine lv_iload_n hx hb dX10_channel_17 rfl (lv_at hl 3 rfl) ?_
      by_cases hlo_18 : x2.toInt < 0
      · refine lv_tableOut (tgt := 181) hx hb dX10_channel_18 (Or.inl hlo_18) (by decide) ?_
        refine lv_iconst (v := (-1)) hx hb dX10_channel_181 (by decide) ?_
        have hP9 := hP
        have hD9 := hD
        have hK9 := hK.sub (tys' := []) [] rfl
        exact W.iret (v := (-1)) hx hb hr (fun t ht hW => ⟨⟨(-1), _, rfl, rfl, by rw [ht]; exact hP9, va_K.moved hW.alike hK9, hD9⟩, hS.F ht⟩) hS.2.2 dX10_channel_182
      by_cases hhi_18 : 13 < x2.toInt
      · refine lv_tableOut (tgt := 181) hx hb dX10_channel_18 (Or.inr hhi_18) (by decide) ?_
        refine lv_iconst (v := (-1)) hx hb dX10_channel_181 (by decide) ?_
        have hP9 := hP
        have hD9 := hD
        have hK9 := hK.sub (tys' := []) [] rfl
        exact W.iret (v := (-1)) hx hb hr (fun t ht hW => ⟨⟨(-1), _, rfl, rfl, by rw [ht]; exact hP9, va_K.moved hW.alike hK9, hD9⟩, hS.F ht⟩) hS.2.2 dX10_channel_182
      have hsw_18 : x2 = 0 ∨ x2 = 1 ∨ x2 = 2 ∨ x2 = 3 ∨ x2 = 4 ∨ x2 = 5 ∨ x2 = 6 ∨ x2 = 7 ∨ x2 = 8 ∨ x2 = 9 ∨ x2 = 10 ∨ x2 = 11 ∨ x2 = 12 ∨ x2 = 13 := by
        have h1 : x2.toInt = 0 ∨ x2.toInt = 1 ∨ x2.toInt = 2 ∨ x2.toInt = 3 ∨ x2.toInt = 4 ∨ x2.toInt = 5 ∨ x2.toInt = 6 ∨ x2.toInt = 7 ∨ x2.toInt = 8 ∨ x2.toInt = 9 ∨ x2.toInt = 10 ∨ x2.toInt = 11 ∨ x2.toInt = 12 ∨ x2.toInt = 13 := by omega
        rcases h1 with h1 | h1 | h1 | h1 | h1 | h1 | h1 | h1 | h1 | h1 | h1 | h1 | h1 | h1 <;> simp only [i_eq, h1] <;> decide
      rcases hsw_18 with hq | hq | hq | hq | hq | hq | hq | hq | hq | hq | hq | hq | hq | hq
      · refine lv_tableIn (off := 70) (tgt := 88) hx hb dX10_channel_18 (by rw [hq]; decide) (by rw [hq]; decide) (by rw [hq]; decide) (by decide) ?_
        refine lv_aload_n hx hb dX10_channel_88 rfl (lv_at hl 0 rfl) ?_
        refine va_get (D := (dC, dI)) (ci := 1) (v := .int (xc2 4)) (C := RX1) (T := TX1) (N := 19) hx hb hts iwX1 hown hK hP 4 rfl rfl 4 (by decide) (hts (.fieldLink RX10 210 "ModulePlayer$Channel" "sample" "I") (List.mem_cons_of_mem _ kw_943)) (fun _ h9 => h9) rfl dX10_channel_89 ?_
        have hP9 := hP
        have hD9 := hD
        have hK9 := hK.sub (tys' := []) [] rfl
        exact W.iret (v := xc2 4) hx hb hr (fun t ht hW => ⟨⟨xc2 4, _, rfl, rfl, by rw [ht]; exact hP9, va_K.moved hW.alike hK9, hD9⟩, hS.F ht⟩) hS.2.2 dX10_channel_92
      · refine lv_tableIn (off := 75) (tgt := 93) hx hb dX10_channel_18 (by rw [hq]; decide) (by rw [hq]; decide) (by rw [hq]; decide) (by decide) ?_
        refine lv_aload_n hx hb dX10_channel_93 rfl (lv_at hl 0 rfl) ?_
        refine va_get (D := (dC, dI)) (ci := 1) (v := .int (xc2 5)) (C := RX1) (T := TX1) (N := 19) hx hb hts iwX1 hown hK hP 4 rfl rfl 5 (by decide) (hts (.fieldLink RX10 213 "ModulePlayer$Channel" "volume" "I") (List.mem_cons_of_mem _ kw_944)) (fun _ h9 => h9) rfl dX10_channel_94 ?_
        have hP9 := hP
        have hD9 := hD
        have hK9 := hK.sub (tys' := []) [] rfl
        exact W.iret (v := xc2 5) hx hb hr (fun t ht hW => ⟨⟨xc2 5, _, rfl, rfl, by rw [ht]; exact hP9, va_K.moved hW.alike hK9, hD9⟩, hS.F ht⟩) hS.2.2 dX10_channel_97
      · refine lv_tableIn (off := 80) (tgt := 98) hx hb dX10_channel_18 (by rw [hq]; decide) (by rw [hq]; decide) (by rw [hq]; decide) (by decide) ?_
        refine lv_aload_n hx hb dX10_channel_98 rfl (lv_at hl 0 rfl) ?_
        refine va_get (D := (dC, dI)) (ci := 1) (v := .int (xc2 7)) (C := RX1) (T := TX1) (N := 19) hx hb hts iwX1 hown hK hP 4 rfl rfl 7 (by decide) (hts (.fieldLink RX10 216 "ModulePlayer$Channel" "period" "I") (List.mem_cons_of_mem _ kw_945)) (fun _ h9 => h9) rfl dX10_channel_99 ?_
        have hP9 := hP
        have hD9 := hD
        have hK9 := hK.sub (tys' := []) [] rfl
        exact W.iret (v := xc2 7) hx hb hr (fun t ht hW => ⟨⟨xc2 7, _, rfl, rfl, by rw [ht]; exact hP9, va_K.moved hW.alike hK9, hD9⟩, hS.F ht⟩) hS.2.2 dX10_channel_102
      · refine lv_tableIn (off := 85) (tgt := 103) hx hb dX10_channel_18 (by rw [hq]; decide) (by rw [hq]; decide) (by rw [hq]; decide) (by decide) ?_
        refine lv_aload_n hx hb dX10_channel_103 rfl (lv_at hl 0 rfl) ?_
        refine va_get (D := (dC, dI)) (ci := 1) (v := .long xl2) (C := RX1) (T := TX1) (N := 19) hx hb hts iwX1 hown hK hP 4 rfl rfl 16 (by decide) (hts (.fieldLink RX10 219 "ModulePlayer$Channel" "place" "J") (List.mem_cons_of_mem _ kw_946)) (fun _ h9 => h9) rfl dX10_channel_104 ?_
        refine lv_bipush (v := 16) hx hb dX10_channel_107 (by decide) ?_
        refine lv_lshr (v := xl2 >>> ((16 : Int32).toInt64 &&& 63)) hx hb dX10_channel_109 rfl ?_
        refine lv_topl (fun tv_109 etv_109 => ?_)
        refine lv_l2i (v := tv_109.toInt32) hx hb dX10_channel_110 rfl ?_
        refine lv_topi (fun tv_110 etv_110 => ?_)
        have hP9 := hP
        have hD9 := hD
        have hK9 := hK.sub (tys' := []) [] rfl
        exact W.iret (v := tv_110) hx hb hr (fun t ht hW => ⟨⟨tv_110, _, rfl, rfl, by rw [ht]; exact hP9, va_K.moved hW.alike hK9, hD9⟩, hS.F ht⟩) hS.2.2 dX10_channel_111
      · refine lv_tableIn (off := 94) (tgt := 112) hx hb dX10_channel_18 (by rw [hq]; decide) (by rw [hq]; decide) (by rw [hq]; decide) (by decide) ?_
        refine lv_aload_n hx hb dX10_channel_112 rfl (lv_at hl 0 rfl) ?_
        refine va_get (D := (dC, dI)) (ci := 1) (v := .int (xc2 17)) (C := RX1) (T := TX1) (N := 19) hx hb hts iwX1 hown hK hP 4 rfl rfl 17 (by decide) (hts (.fieldLink RX10 222 "ModulePlayer$Channel" "sounds" "Z") (List.mem_cons_of_mem _ kw_947)) (fun _ h9 => h9) rfl dX10_channel_113 ?_
        refine lv_if_eq (tgt := 123) hx hb dX10_channel_116 (by decide) (fun c_116 => ?_) (fun c_116 => ?_)
        · refine lv_iconst (v := 0) hx hb dX10_channel_123 (by decide) ?_
          have hP9 := hP
          have hD9 := hD
          have hK9 := hK.sub (tys' := []) [] rfl
          exact W.iret (v := 0) hx hb hr (fun t ht hW => ⟨⟨0, _, rfl, rfl, by rw [ht]; exact hP9, va_K.moved hW.alike hK9, hD9⟩, hS.F ht⟩) hS.2.2 dX10_channel_124
        refine lv_iconst (v := 1) hx hb dX10_channel_119 (by decide) ?_
        refine lv_goto (tgt := 124) hx hb dX10_channel_120 (by decide) ?_
        have hP9 := hP
        have hD9 := hD
        have hK9 := hK.sub (tys' := []) [] rfl
        exact W.iret (v := 1) hx hb hr (fun t ht hW => ⟨⟨1, _, rfl, rfl, by rw [ht]; exact hP9, va_K.moved hW.alike hK9, hD9⟩, hS.F ht⟩) hS.2.2 dX10_channel_124
      · refine lv_tableIn (off := 107) (tgt := 125) hx hb dX10_channel_18 (by rw [hq]; decide) (by rw [hq]; decide) (by rw [hq]; decide) (by decide) ?_
        refine lv_aload_n hx hb dX10_channel_125 rfl (lv_at hl 0 rfl) ?_
        refine va_get (D := (dC, dI)) (ci := 1) (v := .int (xc2 14)) (C := RX1) (T := TX1) (N := 19) hx hb hts iwX1 hown hK hP 4 rfl rfl 14 (by decide) (hts (.fieldLink RX10 225 "ModulePlayer$Channel" "heardPeriod" "I") (List.mem_cons_of_mem _ kw_948)) (fun _ h9 => h9) rfl dX10_channel_126 ?_
        have hP9 := hP
        have hD9 := hD
        have hK9 := hK.sub (tys' := []) [] rfl
        exact W.iret (v := xc2 14) hx hb hr (fun t ht hW => ⟨⟨xc2 14, _, rfl, rfl, by rw [ht]; exact hP9, va_K.moved hW.alike hK9, hD9⟩, hS.F ht⟩) hS.2.2 dX10_channel_129
      · refine lv_tableIn (off := 112) (tgt := 130) hx hb dX10_channel_18 (by rw [hq]; decide) (by rw [hq]; decide) (by rw [hq]; decide) (by decide) ?_
        refine lv_aload_n hx hb dX10_channel_130 rfl (lv_at hl 0 rfl) ?_
        refine va_get (D := (dC, dI)) (ci := 1) (v := .int (xc2 15)) (C := RX1) (T := TX1) (N := 19) hx hb hts iwX1 hown hK hP 4 rfl rfl 15 (by decide) (hts (.fieldLink RX10 228 "ModulePlayer$Channel" "heardVolume" "I") (List.mem_cons_of_mem _ kw_949)) (fun _ h9 => h9) rfl dX10_channel_131 ?_
        have hP9 := hP
        have hD9 := hD
        have hK9 := hK.sub (tys' := []) [] rfl
        exact W.iret (v := xc2 15) hx hb hr (fun t ht hW => ⟨⟨xc2 15, _, rfl, rfl, by rw [ht]; exact hP9, va_K.moved hW.alike hK9, hD9⟩, hS.F ht⟩) hS.2.2 dX10_channel_134
      · refine lv_tableIn (off := 117) (tgt := 135) hx hb dX10_channel_18 (by rw [hq]; decide) (by rw [hq]; decide) (by rw [hq]; decide) (by decide) ?_
        refine lv_aload_n hx hb dX10_channel_135 rfl (lv_at hl 0 rfl) ?_
        refine va_get (D := (dC, dI)) (ci := 1) (v := .int (xc2 6)) (C := RX1) (T := TX1) (N := 19) hx hb hts iwX1 hown hK hP 4 rfl rfl 6 (by decide) (hts (.fieldLink RX10 231 "ModulePlayer$Channel" "tune" "I") (List.mem_cons_of_mem _ kw_950)) (fun _ h9 => h9) rfl dX10_channel_136 ?_
        have hP9 := hP
        have hD9 := hD
        have hK9 := hK.sub (tys' := []) [] rfl
        exact W.iret (v := xc2 6) hx hb hr (fun t ht hW => ⟨⟨xc2 6, _, rfl, rfl, by rw [ht]; exact hP9, va_K.moved hW.alike hK9, hD9⟩, hS.F ht⟩) hS.2.2 dX10_channel_139
      · refine lv_tableIn (off := 122) (tgt := 140) hx hb dX10_channel_18 (by rw [hq]; decide) (by rw [hq]; decide) (by rw [hq]; decide) (by decide) ?_
        refine lv_aload_n hx hb dX10_channel_140 rfl (lv_at hl 0 rfl) ?_
        refine va_get (D := (dC, dI)) (ci := 1) (v := .int (xc2 9)) (C := RX1) (T := TX1) (N := 19) hx hb hts iwX1 hown hK hP 4 rfl rfl 9 (by decide) (hts (.fieldLink RX10 234 "ModulePlayer$Channel" "target" "I") (List.mem_cons_of_mem _ kw_951)) (fun _ h9 => h9) rfl dX10_channel_141 ?_
        have hP9 := hP
        have hD9 := hD
        have hK9 := hK.sub (tys' := []) [] rfl
        exact W.iret (v := xc2 9) hx hb hr (fun t ht hW => ⟨⟨xc2 9, _, rfl, rfl, by rw [ht]; exact hP9, va_K.moved hW.alike hK9, hD9⟩, hS.F ht⟩) hS.2.2 dX10_channel_144
      · refine lv_tableIn (off := 127) (tgt := 145) hx hb dX10_channel_18 (by rw [hq]; decide) (by rw [hq]; decide) (by rw [hq]; decide) (by decide) ?_
        refine lv_aload_n hx hb dX10_channel_145 rfl (lv_at hl 0 rfl) ?_
        refine va_get (D := (dC, dI)) (ci := 1) (v := .long xl2) (C := RX1) (T := TX1) (N := 19) hx hb hts iwX1 hown hK hP 4 rfl rfl 16 (by decide) (hts (.fieldLink RX10 219 "ModulePlayer$Channel" "place" "J") (List.mem_cons_of_mem _ kw_946)) (fun _ h9 => h9) rfl dX10_channel_146 ?_
        refine lv_ldc2 (v := 65535) hx hb hown (hts (.constantLong RX10 237 (65535)) (List.mem_cons_of_mem _ kw_952)) dX10_channel_149 ?_
        refine lv_land hx hb dX10_channel_152 ?_
        refine lv_topl (fun tv_152 etv_152 => ?_)
        refine lv_l2i (v := tv_152.toInt32) hx hb dX10_channel_153 rfl ?_
        refine lv_topi (fun tv_153 etv_153 => ?_)
        have hP9 := hP
        have hD9 := hD
        have hK9 := hK.sub (tys' := []) [] rfl
        exact W.iret (v := tv_153) hx hb hr (fun t ht hW => ⟨⟨tv_153, _, rfl, rfl, by rw [ht]; exact hP9, va_K.moved hW.alike hK9, hD9⟩, hS.F ht⟩) hS.2.2 dX10_channel_154
      · refine lv_tableIn (off := 137) (tgt := 155) hx hb dX10_channel_18 (by rw [hq]; decide) (by rw [hq]; decide) (by rw [hq]; decide) (by decide) ?_
        refine lv_aload_n hx hb dX10_channel_155 rfl (lv_at hl 0 rfl) ?_
        refine va_get (D := (dC, dI)) (ci := 1) (v := .ref v2) (C := RX1) (T := TX1) (N := 19) hx hb hts iwX1 hown hK hP 4 rfl rfl 1 (by decide) (hts (.fieldLink RX10 239 "ModulePlayer$Channel" "vibrato" "LModulePlayer$Wobble;") (List.mem_cons_of_mem _ kw_953)) (fun _ h9 => h9) rfl dX10_channel_156 ?_
        refine va_get (D := (dC, dI)) (ci := 8) (v := .int (xv2 2)) (C := RX8) (T := TX8) (N := 4) hx hb hts iwX8 hown hK hP 8 rfl rfl 2 (by decide) (hts (.fieldLink RX10 243 "ModulePlayer$Wobble" "place" "I") (List.mem_cons_of_mem _ kw_954)) (fun _ h9 => h9) rfl dX10_channel_159 ?_
        have hP9 := hP
        have hD9 := hD
        have hK9 := hK.sub (tys' := []) [] rfl
        exact W.iret (v := xv2 2) hx hb hr (fun t ht hW => ⟨⟨xv2 2, _, rfl, rfl, by rw [ht]; exact hP9, va_K.moved hW.alike hK9, hD9⟩, hS.F ht⟩) hS.2.2 dX10_channel_162
      · refine lv_tableIn (off := 145) (tgt := 163) hx hb dX10_channel_18 (by rw [hq]; decide) (by rw [hq]; decide) (by rw [hq]; decide) (by decide) ?_
        refine lv_aload_n hx hb dX10_channel_163 rfl (lv_at hl 0 rfl) ?_
        refine va_get (D := (dC, dI)) (ci := 1) (v := .ref w2) (C := RX1) (T := TX1) (N := 19) hx hb hts iwX1 hown hK hP 4 rfl rfl 2 (by decide) (hts (.fieldLink RX10 246 "ModulePlayer$Channel" "tremolo" "LModulePlayer$Wobble;") (List.mem_cons_of_mem _ kw_955)) (fun _ h9 => h9) rfl dX10_channel_164 ?_
        refine va_get (D := (dC, dI)) (ci := 8) (v := .int (xy2 2)) (C := RX8) (T := TX8) (N := 4) hx hb hts iwX8 hown hK hP 12 rfl rfl 2 (by decide) (hts (.fieldLink RX10 243 "ModulePlayer$Wobble" "place" "I") (List.mem_cons_of_mem _ kw_954)) (fun _ h9 => h9) rfl dX10_channel_167 ?_
        have hP9 := hP
        have hD9 := hD
        have hK9 := hK.sub (tys' := []) [] rfl
        exact W.iret (v := xy2 2) hx hb hr (fun t ht hW => ⟨⟨xy2 2, _, rfl, rfl, by rw [ht]; exact hP9, va_K.moved hW.alike hK9, hD9⟩, hS.F ht⟩) hS.2.2 dX10_channel_170
      · refine lv_tableIn (off := 153) (tgt := 171) hx hb dX10_channel_18 (by rw [hq]; decide) (by rw [hq]; decide) (by rw [hq]; decide) (by decide) ?_
        refine lv_aload_n hx hb dX10_channel_171 rfl (lv_at hl 0 rfl) ?_
        refine va_get (D := (dC, dI)) (ci := 1) (v := .int (xc2 12)) (C := RX1) (T := TX1) (N := 19) hx hb hts iwX1 hown hK hP 4 rfl rfl 12 (by decide) (hts (.fieldLink RX10 249 "ModulePlayer$Channel" "loopRow" "I") (List.mem_cons_of_mem _ kw_956)) (fun _ h9 => h9) rfl dX10_channel_172 ?_
        have hP9 := hP
        have hD9 := hD
        have hK9 := hK.sub (tys' := []) [] rfl
        exact W.iret (v := xc2 12) hx hb hr (fun t ht hW => ⟨⟨xc2 12, _, rfl, rfl, by rw [ht]; exact hP9, va_K.moved hW.alike hK9, hD9⟩, hS.F ht⟩) hS.2.2 dX10_channel_175
      · refine lv_tableIn (off := 158) (tgt := 176) hx hb dX10_channel_18 (by rw [hq]; decide) (by rw [hq]; decide) (by rw [hq]; decide) (by decide) ?_
        refine lv_aload_n hx hb dX10_channel_176 rfl (lv_at hl 0 rfl) ?_
        refine va_get (D := (dC, dI)) (ci := 1) (v := .int (xc2 13)) (C := RX1) (T := TX1) (N := 19) hx hb hts iwX1 hown hK hP 4 rfl rfl 13 (by decide) (hts (.fieldLink RX10 252 "ModulePlayer$Channel" "loopLeft" "I") (List.mem_cons_of_mem _ kw_957)) (fun _ h9 => h9) rfl dX10_channel_177 ?_
        have hP9 := hP
        have hD9 := hD
        have hK9 := hK.sub (tys' := []) [] rfl
        exact W.iret (v := xc2 13) hx hb hr (fun t ht hW => ⟨⟨xc2 13, _, rfl, rfl, by rw [ht]; exact hP9, va_K.moved hW.alike hK9, hD9⟩, hS.F ht⟩) hS.2.2 dX10_channel_180
    · skip
      refine lv_if_ne (tgt := 10) hx hb dX10_channel_5 (by decide) (fun c_5 => ?_) (fun c_5 => absurd c_5 (by decide))
      refine lv_aload_n hx hb dX10_channel_10 rfl (lv_at hl 0 rfl) ?_
      refine va_get (D := (dC, dI)) (ci := 9) (v := .ref aC) (C := RX10) (T := TX10) (N := 7) hx hb hts iwX10 hown hK hP 0 rfl rfl 5 (by decide) (hts (.fieldLink RX10 48 "ModulePlayer" "channels" "[LModulePlayer$Channel;") (List.mem_cons_of_mem _ kw_37)) (fun _ h9 => h9) rfl dX10_channel_11 ?_
      refine lv_iload_n hx hb dX10_channel_14 rfl (lv_at hl 1 rfl) ?_
      refine g_aald hx hb hK hP 1 0 rfl rfl 3 (by decide) (y := c3) (hc3) (by unfold vp_in; decide) dX10_channel_15 ?_
      refine lv_astore_n (lv' := [(3, .ref c3), (0, .ref h), (1, .int 3), (2, .int x2)]) hx hb dX10_channel_16 rfl hl (by decide) rfl (fun ls hl => ?_)
      refine lv_iload_n hx hb dX10_channel_17 rfl (lv_at hl 3 rfl) ?_
      by_cases hlo_18 : x2.toInt < 0
      · refine lv_tableOut (tgt := 181) hx hb dX10_channel_18 (Or.inl hlo_18) (by decide) ?_
        refine lv_iconst (v := (-1)) hx hb dX10_channel_181 (by decide) ?_
        have hP9 := hP
        have hD9 := hD
        have hK9 := hK.sub (tys' := []) [] rfl
        exact W.iret (v := (-1)) hx hb hr (fun t ht hW => ⟨⟨(-1), _, rfl, rfl, by rw [ht]; exact hP9, va_K.moved hW.alike hK9, hD9⟩, hS.F ht⟩) hS.2.2 dX10_channel_182
      by_cases hhi_18 : 13 < x2.toInt
      · refine lv_tableOut (tgt := 181) hx hb dX10_channel_18 (Or.inr hhi_18) (by decide) ?_
        refine lv_iconst (v := (-1)) hx hb dX10_channel_181 (by decide) ?_
        have hP9 := hP
        have hD9 := hD
        have hK9 := hK.sub (tys' := []) [] rfl
        exact W.iret (v := (-1)) hx hb hr (fun t ht hW => ⟨⟨(-1), _, rfl, rfl, by rw [ht]; exact hP9, va_K.moved hW.alike hK9, hD9⟩, hS.F ht⟩) hS.2.2 dX10_channel_182
      have hsw_18 : x2 = 0 ∨ x2 = 1 ∨ x2 = 2 ∨ x2 = 3 ∨ x2 = 4 ∨ x2 = 5 ∨ x2 = 6 ∨ x2 = 7 ∨ x2 = 8 ∨ x2 = 9 ∨ x2 = 10 ∨ x2 = 11 ∨ x2 = 12 ∨ x2 = 13 := by
        have h1 : x2.toInt = 0 ∨ x2.toInt = 1 ∨ x2.toInt = 2 ∨ x2.toInt = 3 ∨ x2.toInt = 4 ∨ x2.toInt = 5 ∨ x2.toInt = 6 ∨ x2.toInt = 7 ∨ x2.toInt = 8 ∨ x2.toInt = 9 ∨ x2.toInt = 10 ∨ x2.toInt = 11 ∨ x2.toInt = 12 ∨ x2.toInt = 13 := by omega
        rcases h1 with h1 | h1 | h1 | h1 | h1 | h1 | h1 | h1 | h1 | h1 | h1 | h1 | h1 | h1 <;> simp only [i_eq, h1] <;> decide
      rcases hsw_18 with hq | hq | hq | hq | hq | hq | hq | hq | hq | hq | hq | hq | hq | hq
      · refine lv_tableIn (off := 70) (tgt := 88) hx hb dX10_channel_18 (by rw [hq]; decide) (by rw [hq]; decide) (by rw [hq]; decide) (by decide) ?_
        refine lv_aload_n hx hb dX10_channel_88 rfl (lv_at hl 0 rfl) ?_
        refine va_get (D := (dC, dI)) (ci := 1) (v := .int (xc3 4)) (C := RX1) (T := TX1) (N := 19) hx hb hts iwX1 hown hK hP 5 rfl rfl 4 (by decide) (hts (.fieldLink RX10 210 "ModulePlayer$Channel" "sample" "I") (List.mem_cons_of_mem _ kw_943)) (fun _ h9 => h9) rfl dX10_channel_89 ?_
        have hP9 := hP
        have hD9 := hD
        have hK9 := hK.sub (tys' := []) [] rfl
        exact W.iret (v := xc3 4) hx hb hr (fun t ht hW => ⟨⟨xc3 4, _, rfl, rfl, by rw [ht]; exact hP9, va_K.moved hW.alike hK9, hD9⟩, hS.F ht⟩) hS.2.2 dX10_channel_92
      · refine lv_tableIn (off := 75) (tgt := 93) hx hb dX10_channel_18 (by rw [hq]; decide) (by rw [hq]; decide) (by rw [hq]; decide) (by decide) ?_
        refine lv_aload_n hx hb dX10_channel_93 rfl (lv_at hl 0 rfl) ?_
        refine va_get (D := (dC, dI)) (ci := 1) (v := .int (xc3 5)) (C := RX1) (T := TX1) (N := 19) hx hb hts iwX1 hown hK hP 5 rfl rfl 5 (by decide) (hts (.fieldLink RX10 213 "ModulePlayer$Channel" "volume" "I") (List.mem_cons_of_mem _ kw_944)) (fun _ h9 => h9) rfl dX10_channel_94 ?_
        have hP9 := hP
        have hD9 := hD
        have hK9 := hK.sub (tys' := []) [] rfl
        exact W.iret (v := xc3 5) hx hb hr (fun t ht hW => ⟨⟨xc3 5, _, rfl, rfl, by rw [ht]; exact hP9, va_K.moved hW.alike hK9, hD9⟩, hS.F ht⟩) hS.2.2 dX10_channel_97
      · refine lv_tableIn (off := 80) (tgt := 98) hx hb dX10_channel_18 (by rw [hq]; decide) (by rw [hq]; decide) (by rw [hq]; decide) (by decide) ?_
        refine lv_aload_n hx hb dX10_channel_98 rfl (lv_at hl 0 rfl) ?_
        refine va_get (D := (dC, dI)) (ci := 1) (v := .int (xc3 7)) (C := RX1) (T := TX1) (N := 19) hx hb hts iwX1 hown hK hP 5 rfl rfl 7 (by decide) (hts (.fieldLink RX10 216 "ModulePlayer$Channel" "period" "I") (List.mem_cons_of_mem _ kw_945)) (fun _ h9 => h9) rfl dX10_channel_99 ?_
        have hP9 := hP
        have hD9 := hD
        have hK9 := hK.sub (tys' := []) [] rfl
        exact W.iret (v := xc3 7) hx hb hr (fun t ht hW => ⟨⟨xc3 7, _, rfl, rfl, by rw [ht]; exact hP9, va_K.moved hW.alike hK9, hD9⟩, hS.F ht⟩) hS.2.2 dX10_channel_102
      · refine lv_tableIn (off := 85) (tgt := 103) hx hb dX10_channel_18 (by rw [hq]; decide) (by rw [hq]; decide) (by rw [hq]; decide) (by decide) ?_
        refine lv_aload_n hx hb dX10_channel_103 rfl (lv_at hl 0 rfl) ?_
        refine va_get (D := (dC, dI)) (ci := 1) (v := .long xl3) (C := RX1) (T := TX1) (N := 19) hx hb hts iwX1 hown hK hP 5 rfl rfl 16 (by decide) (hts (.fieldLink RX10 219 "ModulePlayer$Channel" "place" "J") (List.mem_cons_of_mem _ kw_946)) (fun _ h9 => h9) rfl dX10_channel_104 ?_
        refine lv_bipush (v := 16) hx hb dX10_channel_107 (by decide) ?_
        refine lv_lshr (v := xl3 >>> ((16 : Int32).toInt64 &&& 63)) hx hb dX10_channel_109 rfl ?_
        refine lv_topl (fun tv_109 etv_109 => ?_)
        refine lv_l2i (v := tv_109.toInt32) hx hb dX10_channel_110 rfl ?_
        refine lv_topi (fun tv_110 etv_110 => ?_)
        have hP9 := hP
        have hD9 := hD
        have hK9 := hK.sub (tys' := []) [] rfl
        exact W.iret (v := tv_110) hx hb hr (fun t ht hW => ⟨⟨tv_110, _, rfl, rfl, by rw [ht]; exact hP9, va_K.moved hW.alike hK9, hD9⟩, hS.F ht⟩) hS.2.2 dX10_channel_111
      · refine lv_tableIn (off := 94) (tgt := 112) hx hb dX10_channel_18 (by rw [hq]; decide) (by rw [hq]; decide) (by rw [hq]; decide) (by decide) ?_
        refine lv_aload_n hx hb dX10_channel_112 rfl (lv_at hl 0 rfl) ?_
        refine va_get (D := (dC, dI)) (ci := 1) (v := .int (xc3 17)) (C := RX1) (T := TX1) (N := 19) hx hb hts iwX1 hown hK hP 5 rfl rfl 17 (by decide) (hts (.fieldLink RX10 222 "ModulePlayer$Channel" "sounds" "Z") (List.mem_cons_of_mem _ kw_947)) (fun _ h9 => h9) rfl dX10_channel_113 ?_
        refine lv_if_eq (tgt := 123) hx hb dX10_channel_116 (by decide) (fun c_116 => ?_) (fun c_116 => ?_)
        · refine lv_iconst (v := 0) hx hb dX10_channel_123 (by decide) ?_
          have hP9 := hP
          have hD9 := hD
          have hK9 := hK.sub (tys' := []) [] rfl
          exact W.iret (v := 0) hx hb hr (fun t ht hW => ⟨⟨0, _, rfl, rfl, by rw [ht]; exact hP9, va_K.moved hW.alike hK9, hD9⟩, hS.F ht⟩) hS.2.2 dX10_channel_124
        refine lv_iconst (v := 1) hx hb dX10_channel_119 (by decide) ?_
        refine lv_goto (tgt := 124) hx hb dX10_channel_120 (by decide) ?_
        have hP9 := hP
        have hD9 := hD
        have hK9 := hK.sub (tys' := []) [] rfl
        exact W.iret (v := 1) hx hb hr (fun t ht hW => ⟨⟨1, _, rfl, rfl, by rw [ht]; exact hP9, va_K.moved hW.alike hK9, hD9⟩, hS.F ht⟩) hS.2.2 dX10_channel_124
      · refine lv_tableIn (off := 107) (tgt := 125) hx hb dX10_channel_18 (by rw [hq]; decide) (by rw [hq]; decide) (by rw [hq]; decide) (by decide) ?_
        refine lv_aload_n hx hb dX10_channel_125 rfl (lv_at hl 0 rfl) ?_
        refine va_get (D := (dC, dI)) (ci := 1) (v := .int (xc3 14)) (C := RX1) (T := TX1) (N := 19) hx hb hts iwX1 hown hK hP 5 rfl rfl 14 (by decide) (hts (.fieldLink RX10 225 "ModulePlayer$Channel" "heardPeriod" "I") (List.mem_cons_of_mem _ kw_948)) (fun _ h9 => h9) rfl dX10_channel_126 ?_
        have hP9 := hP
        have hD9 := hD
        have hK9 := hK.sub (tys' := []) [] rfl
        exact W.iret (v := xc3 14) hx hb hr (fun t ht hW => ⟨⟨xc3 14, _, rfl, rfl, by rw [ht]; exact hP9, va_K.moved hW.alike hK9, hD9⟩, hS.F ht⟩) hS.2.2 dX10_channel_129
      · refine lv_tableIn (off := 112) (tgt := 130) hx hb dX10_channel_18 (by rw [hq]; decide) (by rw [hq]; decide) (by rw [hq]; decide) (by decide) ?_
        refine lv_aload_n hx hb dX10_channel_130 rfl (lv_at hl 0 rfl) ?_
        refine va_get (D := (dC, dI)) (ci := 1) (v := .int (xc3 15)) (C := RX1) (T := TX1) (N := 19) hx hb hts iwX1 hown hK hP 5 rfl rfl 15 (by decide) (hts (.fieldLink RX10 228 "ModulePlayer$Channel" "heardVolume" "I") (List.mem_cons_of_mem _ kw_949)) (fun _ h9 => h9) rfl dX10_channel_131 ?_
        have hP9 := hP
        have hD9 := hD
        have hK9 := hK.sub (tys' := []) [] rfl
        exact W.iret (v := xc3 15) hx hb hr (fun t ht hW => ⟨⟨xc3 15, _, rfl, rfl, by rw [ht]; exact hP9, va_K.moved hW.alike hK9, hD9⟩, hS.F ht⟩) hS.2.2 dX10_channel_134
      · refine lv_tableIn (off := 117) (tgt := 135) hx hb dX10_channel_18 (by rw [hq]; decide) (by rw [hq]; decide) (by rw [hq]; decide) (by decide) ?_
        refine lv_aload_n hx hb dX10_channel_135 rfl (lv_at hl 0 rfl) ?_
        refine va_get (D := (dC, dI)) (ci := 1) (v := .int (xc3 6)) (C := RX1) (T := TX1) (N := 19) hx hb hts iwX1 hown hK hP 5 rfl rfl 6 (by decide) (hts (.fieldLink RX10 231 "ModulePlayer$Channel" "tune" "I") (List.mem_cons_of_mem _ kw_950)) (fun _ h9 => h9) rfl dX10_channel_136 ?_
        have hP9 := hP
        have hD9 := hD
        have hK9 := hK.sub (tys' := []) [] rfl
        exact W.iret (v := xc3 6) hx hb hr (fun t ht hW => ⟨⟨xc3 6, _, rfl, rfl, by rw [ht]; exact hP9, va_K.moved hW.alike hK9, hD9⟩, hS.F ht⟩) hS.2.2 dX10_channel_139
      · refine lv_tableIn (off := 122) (tgt := 140) hx hb dX10_channel_18 (by rw [hq]; decide) (by rw [hq]; decide) (by rw [hq]; decide) (by decide) ?_
        refine lv_aload_n hx hb dX10_channel_140 rfl (lv_at hl 0 rfl) ?_
        refine va_get (D := (dC, dI)) (ci := 1) (v := .int (xc3 9)) (C := RX1) (T := TX1) (N := 19) hx hb hts iwX1 hown hK hP 5 rfl rfl 9 (by decide) (hts (.fieldLink RX10 234 "ModulePlayer$Channel" "target" "I") (List.mem_cons_of_mem _ kw_951)) (fun _ h9 => h9) rfl dX10_channel_141 ?_
        have hP9 := hP
        have hD9 := hD
        have hK9 := hK.sub (tys' := []) [] rfl
        exact W.iret (v := xc3 9) hx hb hr (fun t ht hW => ⟨⟨xc3 9, _, rfl, rfl, by rw [ht]; exact hP9, va_K.moved hW.alike hK9, hD9⟩, hS.F ht⟩) hS.2.2 dX10_channel_144
      · refine lv_tableIn (off := 127) (tgt := 145) hx hb dX10_channel_18 (by rw [hq]; decide) (by rw [hq]; decide) (by rw [hq]; decide) (by decide) ?_
        refine lv_aload_n hx hb dX10_channel_145 rfl (lv_at hl 0 rfl) ?_
        refine va_get (D := (dC, dI)) (ci := 1) (v := .long xl3) (C := RX1) (T := TX1) (N := 19) hx hb hts iwX1 hown hK hP 5 rfl rfl 16 (by decide) (hts (.fieldLink RX10 219 "ModulePlayer$Channel" "place" "J") (List.mem_cons_of_mem _ kw_946)) (fun _ h9 => h9) rfl dX10_channel_146 ?_
        refine lv_ldc2 (v := 65535) hx hb hown (hts (.constantLong RX10 237 (65535)) (List.mem_cons_of_mem _ kw_952)) dX10_channel_149 ?_
        refine lv_land hx hb dX10_channel_152 ?_
        refine lv_topl (fun tv_152 etv_152 => ?_)
        refine lv_l2i (v := tv_152.toInt32) hx hb dX10_channel_153 rfl ?_
        refine lv_topi (fun tv_153 etv_153 => ?_)
        have hP9 := hP
        have hD9 := hD
        have hK9 := hK.sub (tys' := []) [] rfl
        exact W.iret (v := tv_153) hx hb hr (fun t ht hW => ⟨⟨tv_153, _, rfl, rfl, by rw [ht]; exact hP9, va_K.moved hW.alike hK9, hD9⟩, hS.F ht⟩) hS.2.2 dX10_channel_154
      · refine lv_tableIn (off := 137) (tgt := 155) hx hb dX10_channel_18 (by rw [hq]; decide) (by rw [hq]; decide) (by rw [hq]; decide) (by decide) ?_
        refine lv_aload_n hx hb dX10_channel_155 rfl (lv_at hl 0 rfl) ?_
        refine va_get (D := (dC, dI)) (ci := 1) (v := .ref v3) (C := RX1) (T := TX1) (N := 19) hx hb hts iwX1 hown hK hP 5 rfl rfl 1 (by decide) (hts (.fieldLink RX10 239 "ModulePlayer$Channel" "vibrato" "LModulePlayer$Wobble;") (List.mem_cons_of_mem _ kw_953)) (fun _ h9 => h9) rfl dX10_channel_156 ?_
        refine va_get (D := (dC, dI)) (ci := 8) (v := .int (xv3 2)) (C := RX8) (T := TX8) (N := 4) hx hb hts iwX8 hown hK hP 9 rfl rfl 2 (by decide) (hts (.fieldLink RX10 243 "ModulePlayer$Wobble" "place" "I") (List.mem_cons_of_mem _ kw_954)) (fun _ h9 => h9) rfl dX10_channel_159 ?_
        have hP9 := hP
        have hD9 := hD
        have hK9 := hK.sub (tys' := []) [] rfl
        exact W.iret (v := xv3 2) hx hb hr (fun t ht hW => ⟨⟨xv3 2, _, rfl, rfl, by rw [ht]; exact hP9, va_K.moved hW.alike hK9, hD9⟩, hS.F ht⟩) hS.2.2 dX10_channel_162
      · refine lv_tableIn (off := 145) (tgt := 163) hx hb dX10_channel_18 (by rw [hq]; decide) (by rw [hq]; decide) (by rw [hq]; decide) (by decide) ?_
        refine lv_aload_n hx hb dX10_channel_163 rfl (lv_at hl 0 rfl) ?_
        refine va_get (D := (dC, dI)) (ci := 1) (v := .ref w3) (C := RX1) (T := TX1) (N := 19) hx hb hts iwX1 hown hK hP 5 rfl rfl 2 (by decide) (hts (.fieldLink RX10 246 "ModulePlayer$Channel" "tremolo" "LModulePlayer$Wobble;") (List.mem_cons_of_mem _ kw_955)) (fun _ h9 => h9) rfl dX10_channel_164 ?_
        refine va_get (D := (dC, dI)) (ci := 8) (v := .int (xy3 2)) (C := RX8) (T := TX8) (N := 4) hx hb hts iwX8 hown hK hP 13 rfl rfl 2 (by decide) (hts (.fieldLink RX10 243 "ModulePlayer$Wobble" "place" "I") (List.mem_cons_of_mem _ kw_954)) (fun _ h9 => h9) rfl dX10_channel_167 ?_
        have hP9 := hP
        have hD9 := hD
        have hK9 := hK.sub (tys' := []) [] rfl
        exact W.iret (v := xy3 2) hx hb hr (fun t ht hW => ⟨⟨xy3 2, _, rfl, rfl, by rw [ht]; exact hP9, va_K.moved hW.alike hK9, hD9⟩, hS.F ht⟩) hS.2.2 dX10_channel_170
      · refine lv_tableIn (off := 153) (tgt := 171) hx hb dX10_channel_18 (by rw [hq]; decide) (by rw [hq]; decide) (by rw [hq]; decide) (by decide) ?_
        refine lv_aload_n hx hb dX10_channel_171 rfl (lv_at hl 0 rfl) ?_
        refine va_get (D := (dC, dI)) (ci := 1) (v := .int (xc3 12)) (C := RX1) (T := TX1) (N := 19) hx hb hts iwX1 hown hK hP 5 rfl rfl 12 (by decide) (hts (.fieldLink RX10 249 "ModulePlayer$Channel" "loopRow" "I") (List.mem_cons_of_mem _ kw_956)) (fun _ h9 => h9) rfl dX10_channel_172 ?_
        have hP9 := hP
        have hD9 := hD
        have hK9 := hK.sub (tys' := []) [] rfl
        exact W.iret (v := xc3 12) hx hb hr (fun t ht hW => ⟨⟨xc3 12, _, rfl, rfl, by rw [ht]; exact hP9, va_K.moved hW.alike hK9, hD9⟩, hS.F ht⟩) hS.2.2 dX10_channel_175
      · refine lv_tableIn (off := 158) (tgt := 176) hx hb dX10_channel_18 (by rw [hq]; decide) (by rw [hq]; decide) (by rw [hq]; decide) (by decide) ?_
        refine lv_aload_n hx hb dX10_channel_176 rfl (lv_at hl 0 rfl) ?_
        refine va_get (D := (dC, dI)) (ci := 1) (v := .int (xc3 13)) (C := RX1) (T := TX1) (N := 19) hx hb hts iwX1 hown hK hP 5 rfl rfl 13 (by decide) (hts (.fieldLink RX10 252 "ModulePlayer$Channel" "loopLeft" "I") (List.mem_cons_of_mem _ kw_957)) (fun _ h9 => h9) rfl dX10_channel_177 ?_
        have hP9 := hP
        have hD9 := hD
        have hK9 := hK.sub (tys' := []) [] rfl
        exact W.iret (v := xc3 13) hx hb hr (fun t ht hW => ⟨⟨xc3 13, _, rfl, rfl, by rw [ht]; exact hP9, va_K.moved hW.alike hK9, hD9⟩, hS.F ht⟩) hS.2.2 dX10_channel_180
  cases hu
  have hP : va_P (dC, dI) vwCl [(h, .inr (9, [.ref aT, .ref aB, .ref aS, .ref aR, .ref aF, .ref aC, .ref aX])), (aC, .inl (cC, 4, .inr (.inr (.inr (.inr gc))))), (c0, .inr (1, [.ref aB, .ref v0, .ref w0, .int (xc0 3), .int (xc0 4), .int (xc0 5), .int (xc0 6), .int (xc0 7), .int (xc0 8), .int (xc0 9), .int (xc0 10), .int (xc0 11), .int (xc0 12), .int (xc0 13), .int (xc0 14), .int (xc0 15), .long xl0, .int (xc0 17), .int mu0])), (c1, .inr (1, [.ref aB, .ref v1, .ref w1, .int (xc1 3), .int (xc1 4), .int (xc1 5), .int (xc1 6), .int (xc1 7), .int (xc1 8), .int (xc1 9), .int (xc1 10), .int (xc1 11), .int (xc1 12), .int (xc1 13), .int (xc1 14), .int (xc1 15), .long xl1, .int (xc1 17), .int mu1])), (c2, .inr (1, [.ref aB, .ref v2, .ref w2, .int (xc2 3), .int (xc2 4), .int (xc2 5), .int (xc2 6), .int (xc2 7), .int (xc2 8), .int (xc2 9), .int (xc2 10), .int (xc2 11), .int (xc2 12), .int (xc2 13), .int (xc2 14), .int (xc2 15), .long xl2, .int (xc2 17), .int mu2])), (c3, .inr (1, [.ref aB, .ref v3, .ref w3, .int (xc3 3), .int (xc3 4), .int (xc3 5), .int (xc3 6), .int (xc3 7), .int (xc3 8), .int (xc3 9), .int (xc3 10), .int (xc3 11), .int (xc3 12), .int (xc3 13), .int (xc3 14), .int (xc3 15), .long xl3, .int (xc3 17), .int mu3])), (v0, .inr (8, [.int (xv0 0), .int (xv0 1), .int (xv0 2), .int (xv0 3)])), (v1, .inr (8, [.int (xv1 0), .int (xv1 1), .int (xv1 2), .int (xv1 3)])), (v2, .inr (8, [.int (xv2 0), .int (xv2 1), .int (xv2 2), .int (xv2 3)])), (v3, .inr (8, [.int (xv3 0), .int (xv3 1), .int (xv3 2), .int (xv3 3)])), (w0, .inr (8, [.int (xy0 0), .int (xy0 1), .int (xy0 2), .int (xy0 3)])), (w1, .inr (8, [.int (xy1 0), .int (xy1 1), .int (xy1 2), .int (xy1 3)])), (w2, .inr (8, [.int (xy2 0), .int (xy2 1), .int (xy2 2), .int (xy2 3)])), (w3, .inr (8, [.int (xy3 0), .int (xy3 1), .int (xy3 2), .int (xy3 3)]))] H := hP
  have hD : va_D A [(h, .inr (9, [.ref aT, .ref aB, .ref aS, .ref aR, .ref aF, .ref aC, .ref aX])), (aC, .inl (cC, 4, .inr (.inr (.inr (.inr gc))))), (c0, .inr (1, [.ref aB, .ref v0, .ref w0, .int (xc0 3), .int (xc0 4), .int (xc0 5), .int (xc0 6), .int (xc0 7), .int (xc0 8), .int (xc0 9), .int (xc0 10), .int (xc0 11), .int (xc0 12), .int (xc0 13), .int (xc0 14), .int (xc0 15), .long xl0, .int (xc0 17), .int mu0])), (c1, .inr (1, [.ref aB, .ref v1, .ref w1, .int (xc1 3), .int (xc1 4), .int (xc1 5), .int (xc1 6), .int (xc1 7), .int (xc1 8), .int (xc1 9), .int (xc1 10), .int (xc1 11), .int (xc1 12), .int (xc1 13), .int (xc1 14), .int (xc1 15), .long xl1, .int (xc1 17), .int mu1])), (c2, .inr (1, [.ref aB, .ref v2, .ref w2, .int (xc2 3), .int (xc2 4), .int (xc2 5), .int (xc2 6), .int (xc2 7), .int (xc2 8), .int (xc2 9), .int (xc2 10), .int (xc2 11), .int (xc2 12), .int (xc2 13), .int (xc2 14), .int (xc2 15), .long xl2, .int (xc2 17), .int mu2])), (c3, .inr (1, [.ref aB, .ref v3, .ref w3, .int (xc3 3), .int (xc3 4), .int (xc3 5), .int (xc3 6), .int (xc3 7), .int (xc3 8), .int (xc3 9), .int (xc3 10), .int (xc3 11), .int (xc3 12), .int (xc3 13), .int (xc3 14), .int (xc3 15), .long xl3, .int (xc3 17), .int mu3])), (v0, .inr (8, [.int (xv0 0), .int (xv0 1), .int (xv0 2), .int (xv0 3)])), (v1, .inr (8, [.int (xv1 0), .int (xv1 1), .int (xv1 2), .int (xv1 3)])), (v2, .inr (8, [.int (xv2 0), .int (xv2 1), .int (xv2 2), .int (xv2 3)])), (v3, .inr (8, [.int (xv3 0), .int (xv3 1), .int (xv3 2), .int (xv3 3)])), (w0, .inr (8, [.int (xy0 0), .int (xy0 1), .int (xy0 2), .int (xy0 3)])), (w1, .inr (8, [.int (xy1 0), .int (xy1 1), .int (xy1 2), .int (xy1 3)])), (w2, .inr (8, [.int (xy2 0), .int (xy2 1), .int (xy2 2), .int (xy2 3)])), (w3, .inr (8, [.int (xy3 0), .int (xy3 1), .int (xy3 2), .int (xy3 3)]))] := hD
  refine g_topi (y := 0) hr_2 ?_
  refine lv_if_ne (tgt := 10) hx hb dX10_channel_5 (by decide) (fun c_5 => absurd c_5 (by decide)) (fun c_5 => ?_)
  refine lv_iconst (v := (-1)) hx hb dX10_channel_8 (by decide) ?_
  have hP9 := hP
  have hD9 := hD
  have hK9 := hK.sub (tys' := []) [] rfl
  exact W.iret (v := (-1)) hx hb hr (fun t ht hW => ⟨⟨(-1), _, rfl, rfl, by rw [ht]; exact hP9, va_K.moved hW.alike hK9, hD9⟩, hS.F ht⟩) hS.2.2 dX10_channel_9

set_option maxHeartbeats 400000 in
set_option maxRecDepth 100000 in
theorem G_frame (l : Launch) (dC : Nat → ClassId) (dI : Nat → Nat → Nat) (sz : Nat) (h aT aB aS aR aF aC aX ml mr : Nat) (kk mf : Nat) (xsm x y : Int32) (cI : ClassId) (fml fmr : Nat → Int32) (hk2 : kk ≤ 16000) (hmf : mf ≤ kk * 5 / 64) : Met l yX10_frame (wsG (.code yX10_frame cX10_frame 3 (some .int))) ({ frames := 1, cells := 0, slots := 0, locals := 21 }) (va_Pc [.ref h, .int x, .int y] (gP (dC, dI) [(cI, .int)] [(h, .inr (9, [.ref aT, .ref aB, .ref aS, .ref aR, .ref aF, .ref aC, .ref aX])), (aX, .inr (3, [.int (nI kk), .ref ml, .ref mr, .int (nI mf), .int xsm])), (ml, .inl (cI, (kk * 5 / 64), .inl fml)), (mr, .inl (cI, (kk * 5 / 64), .inl fmr))] sz)) (va_Qi (fun (r : Int32) (u : va_W × gT) => u = ([(h, .inr (9, [.ref aT, .ref aB, .ref aS, .ref aR, .ref aF, .ref aC, .ref aX])), (aX, .inr (3, [.int (nI kk), .ref ml, .ref mr, .int (nI mf), .int xsm])), (ml, .inl (cI, (kk * 5 / 64), .inl fml)), (mr, .inl (cI, (kk * 5 / 64), .inl fmr))], [])) (gB (dC, dI) (va_A [(h, .inr (9, [.ref aT, .ref aB, .ref aS, .ref aR, .ref aF, .ref aC, .ref aX])), (aX, .inr (3, [.int (nI kk), .ref ml, .ref mr, .int (nI mf), .int xsm])), (ml, .inl (cI, (kk * 5 / 64), .inl fml)), (mr, .inl (cI, (kk * 5 / 64), .inl fmr))] sz)) (va_A [(h, .inr (9, [.ref aT, .ref aB, .ref aS, .ref aR, .ref aF, .ref aC, .ref aX])), (aX, .inr (3, [.int (nI kk), .ref ml, .ref mr, .int (nI mf), .int xsm])), (ml, .inl (cI, (kk * 5 / 64), .inl fml)), (mr, .inl (cI, (kk * 5 / 64), .inl fmr))] sz)) 0 0 (va_A [(h, .inr (9, [.ref aT, .ref aB, .ref aS, .ref aR, .ref aF, .ref aC, .ref aX])), (aX, .inr (3, [.int (nI kk), .ref ml, .ref mr, .int (nI mf), .int xsm])), (ml, .inl (cI, (kk * 5 / 64), .inl fml)), (mr, .inl (cI, (kk * 5 / 64), .inl fmr))] sz) := by
  refine Met.ofW (cc := cX10_frame) (maxL := 3) (ret := (some .int)) (by decide) rfl ?_
  intro p e s m args below meth c s₁ B hml hv
  obtain ⟨rfl, hsz, hP, hK, hD0, hN, hZ⟩ := hv
  have hx := B.exec
  have hb := B.bytes
  have hr := B.returns
  have hts := atoms_spec (ws := (wsG (.code yX10_frame cX10_frame 3 (some .int)))) B.pre
  have hown : s.vm.findClass RX10 = some m.cls := findClass_of_methodNamed B.named
  have hlocks := B.notSynchronized
  subst hsz
  have hD := hD0.self (sz := s.heap.size)
  generalize hAe : va_A [(h, .inr (9, [.ref aT, .ref aB, .ref aS, .ref aR, .ref aF, .ref aC, .ref aX])), (aX, .inr (3, [.int (nI kk), .ref ml, .ref mr, .int (nI mf), .int xsm])), (ml, .inl (cI, (kk * 5 / 64), .inl fml)), (mr, .inl (cI, (kk * 5 / 64), .inl fmr))] s.heap.size = A at hD hZ ⊢
  have hA : ∀ q : Nat, s.heap.size ≤ q → A q := fun q h => by rw [← hAe]; exact Or.inr h
  have hl := lv_entry ([.ref h, .int x, .int y]) (n := 3) (Nat.le_of_ble_eq_true rfl)
  rw [lg_entry_eq]
  generalize (lg_sl ([.ref h, .int x, .int y]) ++ List.replicate (3 - (lg_sl ([.ref h, .int x, .int y])).length) Slot.unset).toArray = ls at hl ⊢
  have hl : lv_has ls 3 [(0, .ref h), (1, .int x), (2, .int y)] := hl
  refine g_start (A := A) hP (fun H locs hP hS => ?_)
  refine lv_iload_n hx hb dX10_frame_0 rfl (lv_at hl 1 rfl) ?_
  refine lv_aload_n hx hb dX10_frame_1 rfl (lv_at hl 0 rfl) ?_
  refine va_get (D := (dC, dI)) (ci := 9) (v := .ref aX) (C := RX10) (T := TX10) (N := 7) hx hb hts iwX10 hown hK hP 0 rfl rfl 6 (by decide) (hts (.fieldLink RX10 64 "ModulePlayer" "mixer" "LModulePlayer$Mixer;") (List.mem_cons_of_mem _ kw_43)) (fun _ h9 => h9) rfl dX10_frame_2 ?_
  refine va_get (D := (dC, dI)) (ci := 3) (v := .int (nI mf)) (C := RX3) (T := TX3) (N := 5) hx hb hts iwX3 hown hK hP 1 rfl rfl 3 (by decide) (hts (.fieldLink RX10 195 "ModulePlayer$Mixer" "frames" "I") (List.mem_cons_of_mem _ kw_931)) (fun _ h9 => h9) rfl dX10_frame_5 ?_
  refine g_calli (wr := [(h, .inr (9, [.ref aT, .ref aB, .ref aS, .ref aR, .ref aF, .ref aC, .ref aX])), (aX, .inr (3, [.int (nI kk), .ref ml, .ref mr, .int (nI mf), .int xsm])), (ml, .inl (cI, (kk * 5 / 64), .inl fml)), (mr, .inl (cI, (kk * 5 / 64), .inl fmr))]) (va_runS (As := [.int x, .int (nI mf)]) (rest := []) ⟨hx, hb, hml, hown, hts⟩ (c_isIn l dC dI H.size x (nI mf) ) (va_cwS 2 hts (gG_S kw_273 kw_247 kw_2 kw_248) rfl rfl rfl (by decide +kernel) ⟨Nat.le_of_ble_eq_true rfl, Nat.le_of_ble_eq_true rfl⟩) (g_preS hP hD hK hS hA hN hZ [] (by decide) rfl [] rfl) rfl rfl hl.1 rfl (lv_room (Nat.le_of_ble_eq_true rfl)) dX10_frame_8 ⟨Nat.le_of_ble_eq_true rfl, Nat.le_of_ble_eq_true rfl⟩) hP hD hK hS hA [] [0, 1, 2, 3] rfl rfl (by decide +kernel) (by decide +kernel) (fun r_8 w ty1 H locs hw_8 hP hD _ hS => ?_)
  rcases hw_8 with ⟨hu, hr_8, h_8⟩ | ⟨hu, hr_8, h_8⟩
  · cases hu
    have hP : va_P (dC, dI) vwCl [(h, .inr (9, [.ref aT, .ref aB, .ref aS, .ref aR, .ref aF, .ref aC, .ref aX])), (aX, .inr (3, [.int (nI kk), .ref ml, .ref mr, .int (nI mf), .int xsm])), (ml, .inl (cI, (kk * 5 / 64), .inl fml)), (mr, .inl (cI, (kk * 5 / 64), .inl fmr))] H := hP
    have hD : va_D A [(h, .inr (9, [.ref aT, .ref aB, .ref aS, .ref aR, .ref aF, .ref aC, .ref aX])), (aX, .inr (3, [.int (nI kk), .ref ml, .ref mr, .int (nI mf), .int xsm])), (ml, .inl (cI, (kk * 5 / 64), .inl fml)), (mr, .inl (cI, (kk * 5 / 64), .inl fmr))] := hD
    refine g_topi (y := 1) hr_8 ?_
    obtain ⟨jp, hjp, hij⟩ := i_in (n := mf) (by omega) h_8.1 h_8.2
    subst hij
    refine lv_if_ne (tgt := 16) hx hb dX10_frame_11 (by decide) (fun c_11 => ?_) (fun c_11 => absurd c_11 (by decide))
    refine lv_iload_n hx hb dX10_frame_16 rfl (lv_at hl 2 rfl) ?_
    by_cases hq_17_0 : y = 0
    · refine lv_lookup (off := 27) (tgt := 44) hx hb dX10_frame_17 (by decide) (by rw [hq_17_0]; decide) (by decide) ?_
      refine lv_aload_n hx hb dX10_frame_44 rfl (lv_at hl 0 rfl) ?_
      refine va_get (D := (dC, dI)) (ci := 9) (v := .ref aX) (C := RX10) (T := TX10) (N := 7) hx hb hts iwX10 hown hK hP 0 rfl rfl 6 (by decide) (hts (.fieldLink RX10 64 "ModulePlayer" "mixer" "LModulePlayer$Mixer;") (List.mem_cons_of_mem _ kw_43)) (fun _ h9 => h9) rfl dX10_frame_45 ?_
      refine va_get (D := (dC, dI)) (ci := 3) (v := .ref ml) (C := RX3) (T := TX3) (N := 5) hx hb hts iwX3 hown hK hP 1 rfl rfl 1 (by decide) (hts (.fieldLink RX10 255 "ModulePlayer$Mixer" "left" "[I") (List.mem_cons_of_mem _ kw_966)) (fun _ h9 => h9) rfl dX10_frame_48 ?_
      refine lv_iload_n hx hb dX10_frame_51 rfl (lv_at hl 1 rfl) ?_
      refine g_iald hx hb hK hP 2 0 rfl rfl jp (nI_clamp (by omega)) (vp_in_nI (by omega) (by omega)) dX10_frame_52 ?_
      refine lv_topi (fun tv_52 etv_52 => ?_)
      have hP9 := hP
      have hD9 := hD
      have hK9 := hK.sub (tys' := []) [] rfl
      exact W.iret (v := tv_52) hx hb hr (fun t ht hW => ⟨⟨tv_52, _, rfl, rfl, by rw [ht]; exact hP9, va_K.moved hW.alike hK9, hD9⟩, hS.F ht⟩) hS.2.2 dX10_frame_53
    by_cases hq_17_1 : y = 1
    · refine lv_lookup (off := 37) (tgt := 54) hx hb dX10_frame_17 (by decide) (by rw [hq_17_1]; decide) (by decide) ?_
      refine lv_aload_n hx hb dX10_frame_54 rfl (lv_at hl 0 rfl) ?_
      refine va_get (D := (dC, dI)) (ci := 9) (v := .ref aX) (C := RX10) (T := TX10) (N := 7) hx hb hts iwX10 hown hK hP 0 rfl rfl 6 (by decide) (hts (.fieldLink RX10 64 "ModulePlayer" "mixer" "LModulePlayer$Mixer;") (List.mem_cons_of_mem _ kw_43)) (fun _ h9 => h9) rfl dX10_frame_55 ?_
      refine va_get (D := (dC, dI)) (ci := 3) (v := .ref mr) (C := RX3) (T := TX3) (N := 5) hx hb hts iwX3 hown hK hP 1 rfl rfl 2 (by decide) (hts (.fieldLink RX10 258 "ModulePlayer$Mixer" "right" "[I") (List.mem_cons_of_mem _ kw_967)) (fun _ h9 => h9) rfl dX10_frame_58 ?_
      refine lv_iload_n hx hb dX10_frame_61 rfl (lv_at hl 1 rfl) ?_
      refine g_iald hx hb hK hP 3 0 rfl rfl jp (nI_clamp (by omega)) (vp_in_nI (by omega) (by omega)) dX10_frame_62 ?_
      refine lv_topi (fun tv_62 etv_62 => ?_)
      have hP9 := hP
      have hD9 := hD
      have hK9 := hK.sub (tys' := []) [] rfl
      exact W.iret (v := tv_62) hx hb hr (fun t ht hW => ⟨⟨tv_62, _, rfl, rfl, by rw [ht]; exact hP9, va_K.moved hW.alike hK9, hD9⟩, hS.F ht⟩) hS.2.2 dX10_frame_63
    refine lv_lookup (off := 47) (tgt := 64) hx hb dX10_frame_17 (by decide) (by show Op.lookupswitch.offset [(0, 27), (1, 37)] 47 _ = _; rw [lv_osw hq_17_0 (by decide)]; rw [lv_osw hq_17_1 (by decide)]; rfl) (by decide) ?_
    refine lv_iconst (v := 0) hx hb dX10_frame_64 (by decide) ?_
    have hP9 := hP
    have hD9 := hD
    have hK9 := hK.sub (tys' := []) [] rfl
    exact W.iret (v := 0) hx hb hr (fun t ht hW => ⟨⟨0, _, rfl, rfl, by rw [ht]; exact hP9, va_K.moved hW.alike hK9, hD9⟩, hS.F ht⟩) hS.2.2 dX10_frame_65
  cases hu
  have hP : va_P (dC, dI) vwCl [(h, .inr (9, [.ref aT, .ref aB, .ref aS, .ref aR, .ref aF, .ref aC, .ref aX])), (aX, .inr (3, [.int (nI kk), .ref ml, .ref mr, .int (nI mf), .int xsm])), (ml, .inl (cI, (kk * 5 / 64), .inl fml)), (mr, .inl (cI, (kk * 5 / 64), .inl fmr))] H := hP
  have hD : va_D A [(h, .inr (9, [.ref aT, .ref aB, .ref aS, .ref aR, .ref aF, .ref aC, .ref aX])), (aX, .inr (3, [.int (nI kk), .ref ml, .ref mr, .int (nI mf), .int xsm])), (ml, .inl (cI, (kk * 5 / 64), .inl fml)), (mr, .inl (cI, (kk * 5 / 64), .inl fmr))] := hD
  refine g_topi (y := 0) hr_8 ?_
  refine lv_if_ne (tgt := 16) hx hb dX10_frame_11 (by decide) (fun c_11 => absurd c_11 (by decide)) (fun c_11 => ?_)
  refine lv_iconst (v := 0) hx hb dX10_frame_14 (by decide) ?_
  have hP9 := hP
  have hD9 := hD
  have hK9 := hK.sub (tys' := []) [] rfl
  exact W.iret (v := 0) hx hb hr (fun t ht hW => ⟨⟨0, _, rfl, rfl, by rw [ht]; exact hP9, va_K.moved hW.alike hK9, hD9⟩, hS.F ht⟩) hS.2.2 dX10_frame_15

set_option maxHeartbeats 400000 in
set_option maxRecDepth 100000 in
theorem G_fault (l : Launch) (dC : Nat → ClassId) (dI : Nat → Nat → Nat) (sz : Nat) (h aT aB aS aR aF aC aX : Nat) (ra0 ra1 x : Int32) : Met l yX10_fault (wsG (.code yX10_fault cX10_fault 2 (some .int))) ({ frames := 0, cells := 0, slots := 0, locals := 0 }) (va_Pc [.ref h, .int x] (gP (dC, dI) [] [(h, .inr (9, [.ref aT, .ref aB, .ref aS, .ref aR, .ref aF, .ref aC, .ref aX])), (aR, .inr (4, [.int ra0, .int ra1]))] sz)) (va_Qi (fun (r : Int32) (u : va_W × gT) => u = ([(h, .inr (9, [.ref aT, .ref aB, .ref aS, .ref aR, .ref aF, .ref aC, .ref aX])), (aR, .inr (4, [.int ra0, .int ra1]))], []) ∧ r = (if x = 0 then ra0 else if x = 1 then ra1 else -1)) (gB (dC, dI) (va_A [(h, .inr (9, [.ref aT, .ref aB, .ref aS, .ref aR, .ref aF, .ref aC, .ref aX])), (aR, .inr (4, [.int ra0, .int ra1]))] sz)) (va_A [(h, .inr (9, [.ref aT, .ref aB, .ref aS, .ref aR, .ref aF, .ref aC, .ref aX])), (aR, .inr (4, [.int ra0, .int ra1]))] sz)) 0 0 (va_A [(h, .inr (9, [.ref aT, .ref aB, .ref aS, .ref aR, .ref aF, .ref aC, .ref aX])), (aR, .inr (4, [.int ra0, .int ra1]))] sz) := by
  refine Met.ofW (cc := cX10_fault) (maxL := 2) (ret := (some .int)) (by decide) rfl ?_
  intro p e s m args below meth c s₁ B hml hv
  obtain ⟨rfl, hsz, hP, hK, hD0, hN, hZ⟩ := hv
  have hx := B.exec
  have hb := B.bytes
  have hr := B.returns
  have hts := atoms_spec (ws := (wsG (.code yX10_fault cX10_fault 2 (some .int)))) B.pre
  have hown : s.vm.findClass RX10 = some m.cls := findClass_of_methodNamed B.named
  have hlocks := B.notSynchronized
  subst hsz
  have hD := hD0.self (sz := s.heap.size)
  generalize hAe : va_A [(h, .inr (9, [.ref aT, .ref aB, .ref aS, .ref aR, .ref aF, .ref aC, .ref aX])), (aR, .inr (4, [.int ra0, .int ra1]))] s.heap.size = A at hD hZ ⊢
  have hA : ∀ q : Nat, s.heap.size ≤ q → A q := fun q h => by rw [← hAe]; exact Or.inr h
  have hl := lv_entry ([.ref h, .int x]) (n := 2) (Nat.le_of_ble_eq_true rfl)
  rw [lg_entry_eq]
  generalize (lg_sl ([.ref h, .int x]) ++ List.replicate (2 - (lg_sl ([.ref h, .int x])).length) Slot.unset).toArray = ls at hl ⊢
  have hl : lv_has ls 2 [(0, .ref h), (1, .int x)] := hl
  refine g_start (A := A) hP (fun H locs hP hS => ?_)
  refine lv_iload_n hx hb dX10_fault_0 rfl (lv_at hl 1 rfl) ?_
  by_cases hq_1_0 : x = 0
  · refine lv_lookup (off := 27) (tgt := 28) hx hb dX10_fault_1 (by decide) (by rw [hq_1_0]; decide) (by decide) ?_
    refine lv_aload_n hx hb dX10_fault_28 rfl (lv_at hl 0 rfl) ?_
    refine va_get (D := (dC, dI)) (ci := 9) (v := .ref aR) (C := RX10) (T := TX10) (N := 7) hx hb hts iwX10 hown hK hP 0 rfl rfl 3 (by decide) (hts (.fieldLink RX10 33 "ModulePlayer" "reader" "LModulePlayer$Reader;") (List.mem_cons_of_mem _ kw_31)) (fun _ h9 => h9) rfl dX10_fault_29 ?_
    refine va_get (D := (dC, dI)) (ci := 4) (v := .int ra0) (C := RX4) (T := TX4) (N := 2) hx hb hts iwX4 hown hK hP 1 rfl rfl 0 (by decide) (hts (.fieldLink RX10 106 "ModulePlayer$Reader" "fault" "I") (List.mem_cons_of_mem _ kw_456)) (fun _ h9 => h9) rfl dX10_fault_32 ?_
    have hP9 := hP
    have hD9 := hD
    have hK9 := hK.sub (tys' := []) [] rfl
    exact W.iret (v := ra0) hx hb hr (fun t ht hW => ⟨⟨ra0, _, rfl, ⟨rfl, (if_pos hq_1_0).symm⟩, by rw [ht]; exact hP9, va_K.moved hW.alike hK9, hD9⟩, hS.F ht⟩) hS.2.2 dX10_fault_35
  by_cases hq_1_1 : x = 1
  · refine lv_lookup (off := 35) (tgt := 36) hx hb dX10_fault_1 (by decide) (by rw [hq_1_1]; decide) (by decide) ?_
    refine lv_aload_n hx hb dX10_fault_36 rfl (lv_at hl 0 rfl) ?_
    refine va_get (D := (dC, dI)) (ci := 9) (v := .ref aR) (C := RX10) (T := TX10) (N := 7) hx hb hts iwX10 hown hK hP 0 rfl rfl 3 (by decide) (hts (.fieldLink RX10 33 "ModulePlayer" "reader" "LModulePlayer$Reader;") (List.mem_cons_of_mem _ kw_31)) (fun _ h9 => h9) rfl dX10_fault_37 ?_
    refine va_get (D := (dC, dI)) (ci := 4) (v := .int ra1) (C := RX4) (T := TX4) (N := 2) hx hb hts iwX4 hown hK hP 1 rfl rfl 1 (by decide) (hts (.fieldLink RX10 109 "ModulePlayer$Reader" "faultPlace" "I") (List.mem_cons_of_mem _ kw_457)) (fun _ h9 => h9) rfl dX10_fault_40 ?_
    have hP9 := hP
    have hD9 := hD
    have hK9 := hK.sub (tys' := []) [] rfl
    exact W.iret (v := ra1) hx hb hr (fun t ht hW => ⟨⟨ra1, _, rfl, ⟨rfl, by rw [if_neg hq_1_0, if_pos hq_1_1]⟩, by rw [ht]; exact hP9, va_K.moved hW.alike hK9, hD9⟩, hS.F ht⟩) hS.2.2 dX10_fault_43
  refine lv_lookup (off := 43) (tgt := 44) hx hb dX10_fault_1 (by decide) (by show Op.lookupswitch.offset [(0, 27), (1, 35)] 43 _ = _; rw [lv_osw hq_1_0 (by decide)]; rw [lv_osw hq_1_1 (by decide)]; rfl) (by decide) ?_
  refine lv_iconst (v := (-1)) hx hb dX10_fault_44 (by decide) ?_
  have hP9 := hP
  have hD9 := hD
  have hK9 := hK.sub (tys' := []) [] rfl
  exact W.iret (v := (-1)) hx hb hr (fun t ht hW => ⟨⟨(-1), _, rfl, ⟨rfl, by rw [if_neg hq_1_0, if_neg hq_1_1]⟩, by rw [ht]; exact hP9, va_K.moved hW.alike hK9, hD9⟩, hS.F ht⟩) hS.2.2 dX10_fault_45

set_option maxHeartbeats 400000 in
set_option maxRecDepth 100000 in
theorem G_end (l : Launch) (dC : Nat → ClassId) (dI : Nat → Nat → Nat) (sz : Nat) (h aT aB aS aR aF aC aX tb : Nat) (cB : ClassId) (f : Nat → Int32) (L : Nat) (n : Int32) (hL : L ≤ 9000) : Met l yX10_end (wsG (.code yX10_end cX10_end 2 (some .boolean))) ({ frames := 0, cells := 0, slots := 0, locals := 0 }) (va_Pc [.ref h, .int n] (gP (dC, dI) [(cB, .byte)] [(h, .inr (9, [.ref aT, .ref aB, .ref aS, .ref aR, .ref aF, .ref aC, .ref aX])), (aT, .inr (7, [.ref tb, .int (nI L)])), (tb, .inl (cB, 9000, .inl f))] sz)) (va_Qi (fun (r : Int32) (u : va_W × gT) => (∃ (jn : Nat), u = ([(h, .inr (9, [.ref aT, .ref aB, .ref aS, .ref aR, .ref aF, .ref aC, .ref aX])), (aT, .inr (7, [.ref tb, .int (nI jn)])), (tb, .inl (cB, 9000, .inl f))], []) ∧ r = 1 ∧ jn ≤ L ∧ n = nI jn) ∨ (u = ([(h, .inr (9, [.ref aT, .ref aB, .ref aS, .ref aR, .ref aF, .ref aC, .ref aX])), (aT, .inr (7, [.ref tb, .int (nI L)])), (tb, .inl (cB, 9000, .inl f))], []) ∧ r = 0 ∧ ¬ (0 ≤ n ∧ n ≤ nI L))) (gB (dC, dI) (va_A [(h, .inr (9, [.ref aT, .ref aB, .ref aS, .ref aR, .ref aF, .ref aC, .ref aX])), (aT, .inr (7, [.ref tb, .int (nI L)])), (tb, .inl (cB, 9000, .inl f))] sz)) (va_A [(h, .inr (9, [.ref aT, .ref aB, .ref aS, .ref aR, .ref aF, .ref aC, .ref aX])), (aT, .inr (7, [.ref tb, .int (nI L)])), (tb, .inl (cB, 9000, .inl f))] sz)) 0 0 (va_A [(h, .inr (9, [.ref aT, .ref aB, .ref aS, .ref aR, .ref aF, .ref aC, .ref aX])), (aT, .inr (7, [.ref tb, .int (nI L)])), (tb, .inl (cB, 9000, .inl f))] sz) := by
  refine Met.ofW (cc := cX10_end) (maxL := 2) (ret := (some .boolean)) (by decide) rfl ?_
  intro p e s m args below meth c s₁ B hml hv
  obtain ⟨rfl, hsz, hP, hK, hD0, hN, hZ⟩ := hv
  have hx := B.exec
  have hb := B.bytes
  have hr := B.returns
  have hts := atoms_spec (ws := (wsG (.code yX10_end cX10_end 2 (some .boolean)))) B.pre
  have hown : s.vm.findClass RX10 = some m.cls := findClass_of_methodNamed B.named
  have hlocks := B.notSynchronized
  subst hsz
  have hD := hD0.self (sz := s.heap.size)
  generalize hAe : va_A [(h, .inr (9, [.ref aT, .ref aB, .ref aS, .ref aR, .ref aF, .ref aC, .ref aX])), (aT, .inr (7, [.ref tb, .int (nI L)])), (tb, .inl (cB, 9000, .inl f))] s.heap.size = A at hD hZ ⊢
  have hA : ∀ q : Nat, s.heap.size ≤ q → A q := fun q h => by rw [← hAe]; exact Or.inr h
  have hl := lv_entry ([.ref h, .int n]) (n := 2) (Nat.le_of_ble_eq_true rfl)
  rw [lg_entry_eq]
  generalize (lg_sl ([.ref h, .int n]) ++ List.replicate (2 - (lg_sl ([.ref h, .int n])).length) Slot.unset).toArray = ls at hl ⊢
  have hl : lv_has ls 2 [(0, .ref h), (1, .int n)] := hl
  refine g_start (A := A) hP (fun H locs hP hS => ?_)
  refine lv_iload_n hx hb dX10_end_0 rfl (lv_at hl 1 rfl) ?_
  refine lv_if_lt (tgt := 15) hx hb dX10_end_1 (by decide) (fun c_1 => ?_) (fun c_1 => ?_)
  · refine lv_iconst (v := 0) hx hb dX10_end_15 (by decide) ?_
    have hP9 := hP
    have hD9 := hD
    have hK9 := hK.sub (tys' := []) [] rfl
    exact W.zret (v := 0) hx hb hr (by decide) (fun t ht hW => ⟨⟨0, _, rfl, (Or.inr ⟨rfl, rfl, (fun qv => i_nle.mpr c_1 qv.1)⟩), by rw [ht]; exact hP9, va_K.moved hW.alike hK9, hD9⟩, hS.F ht⟩) hS.2.2 dX10_end_16
  refine lv_iload_n hx hb dX10_end_4 rfl (lv_at hl 1 rfl) ?_
  refine lv_aload_n hx hb dX10_end_5 rfl (lv_at hl 0 rfl) ?_
  refine va_get (D := (dC, dI)) (ci := 9) (v := .ref aT) (C := RX10) (T := TX10) (N := 7) hx hb hts iwX10 hown hK hP 0 rfl rfl 0 (by decide) (hts (.fieldLink RX10 10 "ModulePlayer" "tape" "LModulePlayer$Tape;") (List.mem_cons_of_mem _ kw_19)) (fun _ h9 => h9) rfl dX10_end_6 ?_
  refine va_get (D := (dC, dI)) (ci := 7) (v := .int (nI L)) (C := RX7) (T := TX7) (N := 2) hx hb hts iwX7 hown hK hP 1 rfl rfl 1 (by decide) (hts (.fieldLink RX10 71 "ModulePlayer$Tape" "length" "I") (List.mem_cons_of_mem _ kw_236)) (fun _ h9 => h9) rfl dX10_end_9 ?_
  refine lv_icmp_le (tgt := 17) hx hb dX10_end_12 (by decide) (fun c_12 => ?_) (fun c_12 => ?_)
  · obtain ⟨jn, hjn, ejn⟩ := nI_of2 (M := nI L) (n := L) (nI_toInt (by omega)) c_1 c_12
    refine lv_aload_n hx hb dX10_end_17 rfl (lv_at hl 0 rfl) ?_
    refine va_get (D := (dC, dI)) (ci := 9) (v := .ref aT) (C := RX10) (T := TX10) (N := 7) hx hb hts iwX10 hown hK hP 0 rfl rfl 0 (by decide) (hts (.fieldLink RX10 10 "ModulePlayer" "tape" "LModulePlayer$Tape;") (List.mem_cons_of_mem _ kw_19)) (fun _ h9 => h9) rfl dX10_end_18 ?_
    refine lv_iload_n hx hb dX10_end_21 rfl (lv_at hl 1 rfl) ?_
    refine va_put (D := (dC, dI)) (ci := 7) (v := .int n) (ty := tyX7 1) (C := RX7) (T := TX7) (N := 2) hx hb hts iwX7 tyX7 tyX7_ok nmX7 hown hK hP hD hS 1 rfl rfl 1 (by decide) (hts (.fieldLink RX10 71 "ModulePlayer$Tape" "length" "I") (List.mem_cons_of_mem _ kw_236)) (fun _ h9 => h9) rfl (by decide +kernel) (rfl) (rfl) (Nat.le_of_ble_eq_true rfl) dX10_end_22 (fun H locs hP hD hS => ?_)
    have hP : va_P (dC, dI) vwCl [(h, .inr (9, [.ref aT, .ref aB, .ref aS, .ref aR, .ref aF, .ref aC, .ref aX])), (aT, .inr (7, [.ref tb, .int n])), (tb, .inl (cB, 9000, .inl f))] H := hP
    have hD : va_D A [(h, .inr (9, [.ref aT, .ref aB, .ref aS, .ref aR, .ref aF, .ref aC, .ref aX])), (aT, .inr (7, [.ref tb, .int n])), (tb, .inl (cB, 9000, .inl f))] := hD
    rw [ejn] at hP hD
    refine lv_iconst (v := 1) hx hb dX10_end_25 (by decide) ?_
    have hP9 := hP
    have hD9 := hD
    have hK9 := hK.sub (tys' := []) [] rfl
    exact W.zret (v := 1) hx hb hr (by decide) (fun t ht hW => ⟨⟨1, _, rfl, (Or.inl ⟨jn, rfl, rfl, hjn, ejn⟩), by rw [ht]; exact hP9, va_K.moved hW.alike hK9, hD9⟩, hS.F ht⟩) hS.2.2 dX10_end_26
  refine lv_iconst (v := 0) hx hb dX10_end_15 (by decide) ?_
  have hP9 := hP
  have hD9 := hD
  have hK9 := hK.sub (tys' := []) [] rfl
  exact W.zret (v := 0) hx hb hr (by decide) (fun t ht hW => ⟨⟨0, _, rfl, (Or.inr ⟨rfl, rfl, (fun qv => c_12 qv.2)⟩), by rw [ht]; exact hP9, va_K.moved hW.alike hK9, hD9⟩, hS.F ht⟩) hS.2.2 dX10_end_16

set_option maxHeartbeats 400000 in
set_option maxRecDepth 100000 in
theorem G_cell (l : Launch) (dC : Nat → ClassId) (dI : Nat → Nat → Nat) (sz : Nat) (h aT aB aS aR aF aC aX : Nat) (ce pl : Nat) (sln srs : Int32) (fc fp : Nat → Int32) (cI : ClassId) (xa xb xd v : Int32) : Met l yX10_cell (wsG (.code yX10_cell cX10_cell 5 (some .boolean))) ({ frames := 3, cells := 0, slots := 0, locals := 67 }) (va_Pc [.ref h, .int xa, .int xb, .int xd, .int v] (gP (dC, dI) [(cI, .int)] [(h, .inr (9, [.ref aT, .ref aB, .ref aS, .ref aR, .ref aF, .ref aC, .ref aX])), (aS, .inr (6, [.ref ce, .ref pl, .int sln, .int srs])), (ce, .inl (cI, 2048, .inl fc)), (pl, .inl (cI, 128, .inl fp))] sz)) (va_Qi (fun (r : Int32) (u : va_W × gT) => (∃ (ca : Nat) (cb : Nat) (cd : Nat), u = ([(h, .inr (9, [.ref aT, .ref aB, .ref aS, .ref aR, .ref aF, .ref aC, .ref aX])), (aS, .inr (6, [.ref ce, .ref pl, .int sln, .int srs])), (ce, .inl (cI, 2048, .inl (upd fc ((ca * 64 + cb) * 4 + cd) v))), (pl, .inl (cI, 128, .inl fp))], []) ∧ r = 1 ∧ ca < 8 ∧ cb < 64 ∧ cd < 4 ∧ xa = nI ca ∧ xb = nI cb ∧ xd = nI cd ∧ 0 ≤ v ∧ v ≤ 536870911) ∨ (u = ([(h, .inr (9, [.ref aT, .ref aB, .ref aS, .ref aR, .ref aF, .ref aC, .ref aX])), (aS, .inr (6, [.ref ce, .ref pl, .int sln, .int srs])), (ce, .inl (cI, 2048, .inl fc)), (pl, .inl (cI, 128, .inl fp))], []) ∧ r = 0 ∧ ¬ (cellsP xa xb xd ∧ 0 ≤ v ∧ v ≤ 536870911))) (gB (dC, dI) (va_A [(h, .inr (9, [.ref aT, .ref aB, .ref aS, .ref aR, .ref aF, .ref aC, .ref aX])), (aS, .inr (6, [.ref ce, .ref pl, .int sln, .int srs])), (ce, .inl (cI, 2048, .inl fc)), (pl, .inl (cI, 128, .inl fp))] sz)) (va_A [(h, .inr (9, [.ref aT, .ref aB, .ref aS, .ref aR, .ref aF, .ref aC, .ref aX])), (aS, .inr (6, [.ref ce, .ref pl, .int sln, .int srs])), (ce, .inl (cI, 2048, .inl fc)), (pl, .inl (cI, 128, .inl fp))] sz)) 0 0 (va_A [(h, .inr (9, [.ref aT, .ref aB, .ref aS, .ref aR, .ref aF, .ref aC, .ref aX])), (aS, .inr (6, [.ref ce, .ref pl, .int sln, .int srs])), (ce, .inl (cI, 2048, .inl fc)), (pl, .inl (cI, 128, .inl fp))] sz) := by
  refine Met.ofW (cc := cX10_cell) (maxL := 5) (ret := (some .boolean)) (by decide) rfl ?_
  intro p e s m args below meth c s₁ B hml hv
  obtain ⟨rfl, hsz, hP, hK, hD0, hN, hZ⟩ := hv
  have hx := B.exec
  have hb := B.bytes
  have hr := B.returns
  have hts := atoms_spec (ws := (wsG (.code yX10_cell cX10_cell 5 (some .boolean)))) B.pre
  have hown : s.vm.findClass RX10 = some m.cls := findClass_of_methodNamed B.named
  have hlocks := B.notSynchronized
  subst hsz
  have hD := hD0.self (sz := s.heap.size)
  generalize hAe : va_A [(h, .inr (9, [.ref aT, .ref aB, .ref aS, .ref aR, .ref aF, .ref aC, .ref aX])), (aS, .inr (6, [.ref ce, .ref pl, .int sln, .int srs])), (ce, .inl (cI, 2048, .inl fc)), (pl, .inl (cI, 128, .inl fp))] s.heap.size = A at hD hZ ⊢
  have hA : ∀ q : Nat, s.heap.size ≤ q → A q := fun q h => by rw [← hAe]; exact Or.inr h
  have hl := lv_entry ([.ref h, .int xa, .int xb, .int xd, .int v]) (n := 5) (Nat.le_of_ble_eq_true rfl)
  rw [lg_entry_eq]
  generalize (lg_sl ([.ref h, .int xa, .int xb, .int xd, .int v]) ++ List.replicate (5 - (lg_sl ([.ref h, .int xa, .int xb, .int xd, .int v])).length) Slot.unset).toArray = ls at hl ⊢
  have hl : lv_has ls 5 [(0, .ref h), (1, .int xa), (2, .int xb), (3, .int xd), (4, .int v)] := hl
  refine g_start (A := A) hP (fun H locs hP hS => ?_)
  refine lv_iload_n hx hb dX10_cell_0 rfl (lv_at hl 1 rfl) ?_
  refine lv_iload_n hx hb dX10_cell_1 rfl (lv_at hl 2 rfl) ?_
  refine lv_iload_n hx hb dX10_cell_2 rfl (lv_at hl 3 rfl) ?_
  refine g_calli (wr := [(h, .inr (9, [.ref aT, .ref aB, .ref aS, .ref aR, .ref aF, .ref aC, .ref aX])), (aS, .inr (6, [.ref ce, .ref pl, .int sln, .int srs])), (ce, .inl (cI, 2048, .inl fc)), (pl, .inl (cI, 128, .inl fp))]) (va_runS (As := [.int xa, .int xb, .int xd]) (rest := []) ⟨hx, hb, hml, hown, hts⟩ (c_hasCell l dC dI H.size xa xb xd ) (va_cwS 3 hts (gG_S kw_572 kw_365 kw_26 kw_366) rfl rfl rfl (by decide +kernel) ⟨Nat.le_of_ble_eq_true rfl, Nat.le_of_ble_eq_true rfl⟩) (g_preS hP hD hK hS hA hN hZ [] (by decide) rfl [] rfl) rfl rfl hl.1 rfl (lv_room (Nat.le_of_ble_eq_true rfl)) dX10_cell_3 ⟨Nat.le_of_ble_eq_true rfl, Nat.le_of_ble_eq_true rfl⟩) hP hD hK hS hA [] [0, 1, 2, 3] rfl rfl (by decide +kernel) (by decide +kernel) (fun r_3 w ty1 H locs hw_3 hP hD _ hS => ?_)
  rcases hw_3 with ⟨hu, hr_3, hh_3⟩ | ⟨hu, hr_3, hh_3⟩
  · cases hu
    have hP : va_P (dC, dI) vwCl [(h, .inr (9, [.ref aT, .ref aB, .ref aS, .ref aR, .ref aF, .ref aC, .ref aX])), (aS, .inr (6, [.ref ce, .ref pl, .int sln, .int srs])), (ce, .inl (cI, 2048, .inl fc)), (pl, .inl (cI, 128, .inl fp))] H := hP
    have hD : va_D A [(h, .inr (9, [.ref aT, .ref aB, .ref aS, .ref aR, .ref aF, .ref aC, .ref aX])), (aS, .inr (6, [.ref ce, .ref pl, .int sln, .int srs])), (ce, .inl (cI, 2048, .inl fc)), (pl, .inl (cI, 128, .inl fp))] := hD
    refine g_topi (y := 1) hr_3 ?_
    have hh3 := hh_3
    obtain ⟨ca, cb, cd, hca, hcb, hcd, e1, e2, e3⟩ := cells_n hh_3
    subst e1 e2 e3
    refine lv_if_eq (tgt := 21) hx hb dX10_cell_6 (by decide) (fun c_6 => absurd c_6 (by decide)) (fun c_6 => ?_)
    refine lv_iload hx hb dX10_cell_9 (lv_at hl 4 rfl) ?_
    refine lv_if_lt (tgt := 21) hx hb dX10_cell_11 (by decide) (fun c_11 => ?_) (fun c_11 => ?_)
    · refine lv_iconst (v := 0) hx hb dX10_cell_21 (by decide) ?_
      have hP9 := hP
      have hD9 := hD
      have hK9 := hK.sub (tys' := []) [] rfl
      exact W.zret (v := 0) hx hb hr (by decide) (fun t ht hW => ⟨⟨0, _, rfl, (Or.inr ⟨rfl, rfl, (fun qv => i_nle.mpr c_11 qv.2.1)⟩), by rw [ht]; exact hP9, va_K.moved hW.alike hK9, hD9⟩, hS.F ht⟩) hS.2.2 dX10_cell_22
    refine lv_iload hx hb dX10_cell_14 (lv_at hl 4 rfl) ?_
    refine lv_ldc (v := 536870911) hx hb hown (hts (.constant RX10 161 (536870911)) (List.mem_cons_of_mem _ kw_571)) dX10_cell_16 ?_
    refine lv_icmp_le (tgt := 23) hx hb dX10_cell_18 (by decide) (fun c_18 => ?_) (fun c_18 => ?_)
    · refine lv_aload_n hx hb dX10_cell_23 rfl (lv_at hl 0 rfl) ?_
      refine va_get (D := (dC, dI)) (ci := 9) (v := .ref aS) (C := RX10) (T := TX10) (N := 7) hx hb hts iwX10 hown hK hP 0 rfl rfl 2 (by decide) (hts (.fieldLink RX10 26 "ModulePlayer" "score" "LModulePlayer$Score;") (List.mem_cons_of_mem _ kw_27)) (fun _ h9 => h9) rfl dX10_cell_24 ?_
      refine lv_iload_n hx hb dX10_cell_27 rfl (lv_at hl 1 rfl) ?_
      refine lv_iload_n hx hb dX10_cell_28 rfl (lv_at hl 2 rfl) ?_
      refine lv_iload_n hx hb dX10_cell_29 rfl (lv_at hl 3 rfl) ?_
      refine lv_iload hx hb dX10_cell_30 (lv_at hl 4 rfl) ?_
      refine g_callv (wr := [(h, .inr (9, [.ref aT, .ref aB, .ref aS, .ref aR, .ref aF, .ref aC, .ref aX])), (pl, .inl (cI, 128, .inl fp))]) (va_runV (As := [.int (nI ca), .int (nI cb), .int (nI cd), .int v]) (rest := []) ⟨hx, hb, hml, hown, hts⟩ (c_putCell l dC dI H.size aS ce pl sln srs cI fc ca cb cd v (hca) (hcb) (hcd)) (cwV 4 hts (gG_V kw_573 kw_361 kw_362 kw_26 kw_363) rfl rfl rfl (by decide +kernel) ⟨Nat.le_of_ble_eq_true rfl, Nat.le_of_ble_eq_true rfl⟩) (g_preV (C := RX6) (T := TX6) (N := 4) hP hD hK hS hA hN hZ (q0 := 1) rfl rfl [1, 2] (by decide +kernel) rfl [0] rfl) rfl rfl hl.1 rfl (lv_room (Nat.le_of_ble_eq_true rfl)) dX10_cell_32 ⟨Nat.le_of_ble_eq_true rfl, Nat.le_of_ble_eq_true rfl⟩) hP hD hK hS hA [1, 2] [0, 3] rfl rfl (by decide +kernel) (by decide +kernel) (fun w ty1 H locs hw_32 hP hD _ hS => ?_)
      have hu := hw_32
      cases hu
      have hP : va_P (dC, dI) vwCl [(h, .inr (9, [.ref aT, .ref aB, .ref aS, .ref aR, .ref aF, .ref aC, .ref aX])), (pl, .inl (cI, 128, .inl fp)), (aS, .inr (6, [.ref ce, .ref pl, .int sln, .int srs])), (ce, .inl (cI, 2048, .inl (upd fc ((ca * 64 + cb) * 4 + cd) v)))] H := hP
      have hD : va_D A [(h, .inr (9, [.ref aT, .ref aB, .ref aS, .ref aR, .ref aF, .ref aC, .ref aX])), (pl, .inl (cI, 128, .inl fp)), (aS, .inr (6, [.ref ce, .ref pl, .int sln, .int srs])), (ce, .inl (cI, 2048, .inl (upd fc ((ca * 64 + cb) * 4 + cd) v)))] := hD
      refine lv_iconst (v := 1) hx hb dX10_cell_35 (by decide) ?_
      have hP9 := hP.sub (ws' := [(h, .inr (9, [.ref aT, .ref aB, .ref aS, .ref aR, .ref aF, .ref aC, .ref aX])), (aS, .inr (6, [.ref ce, .ref pl, .int sln, .int srs])), (ce, .inl (cI, 2048, .inl (upd fc ((ca * 64 + cb) * 4 + cd) v))), (pl, .inl (cI, 128, .inl fp))]) [0, 2, 3, 1] rfl
      have hD9 := hD.sub (ws' := [(h, .inr (9, [.ref aT, .ref aB, .ref aS, .ref aR, .ref aF, .ref aC, .ref aX])), (aS, .inr (6, [.ref ce, .ref pl, .int sln, .int srs])), (ce, .inl (cI, 2048, .inl (upd fc ((ca * 64 + cb) * 4 + cd) v))), (pl, .inl (cI, 128, .inl fp))]) [0, 2, 3, 1] (by decide +kernel) rfl
      have hK9 := hK.sub (tys' := []) [] rfl
      exact W.zret (v := 1) hx hb hr (by decide) (fun t ht hW => ⟨⟨1, _, rfl, (Or.inl ⟨ca, cb, cd, rfl, rfl, hca, hcb, hcd, rfl, rfl, rfl, (⟨i_nlt.mp c_11, c_18⟩)⟩), by rw [ht]; exact hP9, va_K.moved hW.alike hK9, hD9⟩, hS.F ht⟩) hS.2.2 dX10_cell_36
    refine lv_iconst (v := 0) hx hb dX10_cell_21 (by decide) ?_
    have hP9 := hP
    have hD9 := hD
    have hK9 := hK.sub (tys' := []) [] rfl
    exact W.zret (v := 0) hx hb hr (by decide) (fun t ht hW => ⟨⟨0, _, rfl, (Or.inr ⟨rfl, rfl, (fun qv => c_18 qv.2.2)⟩), by rw [ht]; exact hP9, va_K.moved hW.alike hK9, hD9⟩, hS.F ht⟩) hS.2.2 dX10_cell_22
  cases hu
  have hP : va_P (dC, dI) vwCl [(h, .inr (9, [.ref aT, .ref aB, .ref aS, .ref aR, .ref aF, .ref aC, .ref aX])), (aS, .inr (6, [.ref ce, .ref pl, .int sln, .int srs])), (ce, .inl (cI, 2048, .inl fc)), (pl, .inl (cI, 128, .inl fp))] H := hP
  have hD : va_D A [(h, .inr (9, [.ref aT, .ref aB, .ref aS, .ref aR, .ref aF, .ref aC, .ref aX])), (aS, .inr (6, [.ref ce, .ref pl, .int sln, .int srs])), (ce, .inl (cI, 2048, .inl fc)), (pl, .inl (cI, 128, .inl fp))] := hD
  refine g_topi (y := 0) hr_3 ?_
  refine lv_if_eq (tgt := 21) hx hb dX10_cell_6 (by decide) (fun c_6 => ?_) (fun c_6 => absurd c_6 (by decide))
  refine lv_iconst (v := 0) hx hb dX10_cell_21 (by decide) ?_
  have hP9 := hP
  have hD9 := hD
  have hK9 := hK.sub (tys' := []) [] rfl
  exact W.zret (v := 0) hx hb hr (by decide) (fun t ht hW => ⟨⟨0, _, rfl, (Or.inr ⟨rfl, rfl, (fun qv => hh_3 qv.1)⟩), by rw [ht]; exact hP9, va_K.moved hW.alike hK9, hD9⟩, hS.F ht⟩) hS.2.2 dX10_cell_22

set_option maxHeartbeats 400000 in
set_option maxRecDepth 100000 in
theorem G_cellOf (l : Launch) (dC : Nat → ClassId) (dI : Nat → Nat → Nat) (sz : Nat) (h aT aB aS aR aF aC aX : Nat) (ce pl : Nat) (sln srs : Int32) (fc fp : Nat → Int32) (cI : ClassId) (xa xb xd : Int32) : Met l yX10_cellOf (wsG (.code yX10_cellOf cX10_cellOf 4 (some .int))) ({ frames := 3, cells := 0, slots := 0, locals := 66 }) (va_Pc [.ref h, .int xa, .int xb, .int xd] (gP (dC, dI) [(cI, .int)] [(h, .inr (9, [.ref aT, .ref aB, .ref aS, .ref aR, .ref aF, .ref aC, .ref aX])), (aS, .inr (6, [.ref ce, .ref pl, .int sln, .int srs])), (ce, .inl (cI, 2048, .inl fc)), (pl, .inl (cI, 128, .inl fp))] sz)) (va_Qi (fun (r : Int32) (u : va_W × gT) => (∃ (ca : Nat) (cb : Nat) (cd : Nat), u = ([(h, .inr (9, [.ref aT, .ref aB, .ref aS, .ref aR, .ref aF, .ref aC, .ref aX])), (aS, .inr (6, [.ref ce, .ref pl, .int sln, .int srs])), (ce, .inl (cI, 2048, .inl fc)), (pl, .inl (cI, 128, .inl fp))], []) ∧ r = fc ((ca * 64 + cb) * 4 + cd) ∧ ca < 8 ∧ cb < 64 ∧ cd < 4 ∧ xa = nI ca ∧ xb = nI cb ∧ xd = nI cd) ∨ (u = ([(h, .inr (9, [.ref aT, .ref aB, .ref aS, .ref aR, .ref aF, .ref aC, .ref aX])), (aS, .inr (6, [.ref ce, .ref pl, .int sln, .int srs])), (ce, .inl (cI, 2048, .inl fc)), (pl, .inl (cI, 128, .inl fp))], []) ∧ r = (-1) ∧ ¬ cellsP xa xb xd)) (gB (dC, dI) (va_A [(h, .inr (9, [.ref aT, .ref aB, .ref aS, .ref aR, .ref aF, .ref aC, .ref aX])), (aS, .inr (6, [.ref ce, .ref pl, .int sln, .int srs])), (ce, .inl (cI, 2048, .inl fc)), (pl, .inl (cI, 128, .inl fp))] sz)) (va_A [(h, .inr (9, [.ref aT, .ref aB, .ref aS, .ref aR, .ref aF, .ref aC, .ref aX])), (aS, .inr (6, [.ref ce, .ref pl, .int sln, .int srs])), (ce, .inl (cI, 2048, .inl fc)), (pl, .inl (cI, 128, .inl fp))] sz)) 0 0 (va_A [(h, .inr (9, [.ref aT, .ref aB, .ref aS, .ref aR, .ref aF, .ref aC, .ref aX])), (aS, .inr (6, [.ref ce, .ref pl, .int sln, .int srs])), (ce, .inl (cI, 2048, .inl fc)), (pl, .inl (cI, 128, .inl fp))] sz) := by
  refine Met.ofW (cc := cX10_cellOf) (maxL := 4) (ret := (some .int)) (by decide) rfl ?_
  intro p e s m args below meth c s₁ B hml hv
  obtain ⟨rfl, hsz, hP, hK, hD0, hN, hZ⟩ := hv
  have hx := B.exec
  have hb := B.bytes
  have hr := B.returns
  have hts := atoms_spec (ws := (wsG (.code yX10_cellOf cX10_cellOf 4 (some .int)))) B.pre
  have hown : s.vm.findClass RX10 = some m.cls := findClass_of_methodNamed B.named
  have hlocks := B.notSynchronized
  subst hsz
  have hD := hD0.self (sz := s.heap.size)
  generalize hAe : va_A [(h, .inr (9, [.ref aT, .ref aB, .ref aS, .ref aR, .ref aF, .ref aC, .ref aX])), (aS, .inr (6, [.ref ce, .ref pl, .int sln, .int srs])), (ce, .inl (cI, 2048, .inl fc)), (pl, .inl (cI, 128, .inl fp))] s.heap.size = A at hD hZ ⊢
  have hA : ∀ q : Nat, s.heap.size ≤ q → A q := fun q h => by rw [← hAe]; exact Or.inr h
  have hl := lv_entry ([.ref h, .int xa, .int xb, .int xd]) (n := 4) (Nat.le_of_ble_eq_true rfl)
  rw [lg_entry_eq]
  generalize (lg_sl ([.ref h, .int xa, .int xb, .int xd]) ++ List.replicate (4 - (lg_sl ([.ref h, .int xa, .int xb, .int xd])).length) Slot.unset).toArray = ls at hl ⊢
  have hl : lv_has ls 4 [(0, .ref h), (1, .int xa), (2, .int xb), (3, .int xd)] := hl
  refine g_start (A := A) hP (fun H locs hP hS => ?_)
  refine lv_iload_n hx hb dX10_cellOf_0 rfl (lv_at hl 1 rfl) ?_
  refine lv_iload_n hx hb dX10_cellOf_1 rfl (lv_at hl 2 rfl) ?_
  refine lv_iload_n hx hb dX10_cellOf_2 rfl (lv_at hl 3 rfl) ?_
  refine g_calli (wr := [(h, .inr (9, [.ref aT, .ref aB, .ref aS, .ref aR, .ref aF, .ref aC, .ref aX])), (aS, .inr (6, [.ref ce, .ref pl, .int sln, .int srs])), (ce, .inl (cI, 2048, .inl fc)), (pl, .inl (cI, 128, .inl fp))]) (va_runS (As := [.int xa, .int xb, .int xd]) (rest := []) ⟨hx, hb, hml, hown, hts⟩ (c_hasCell l dC dI H.size xa xb xd ) (va_cwS 3 hts (gG_S kw_572 kw_365 kw_26 kw_366) rfl rfl rfl (by decide +kernel) ⟨Nat.le_of_ble_eq_true rfl, Nat.le_of_ble_eq_true rfl⟩) (g_preS hP hD hK hS hA hN hZ [] (by decide) rfl [] rfl) rfl rfl hl.1 rfl (lv_room (Nat.le_of_ble_eq_true rfl)) dX10_cellOf_3 ⟨Nat.le_of_ble_eq_true rfl, Nat.le_of_ble_eq_true rfl⟩) hP hD hK hS hA [] [0, 1, 2, 3] rfl rfl (by decide +kernel) (by decide +kernel) (fun r_3 w ty1 H locs hw_3 hP hD _ hS => ?_)
  rcases hw_3 with ⟨hu, hr_3, hh_3⟩ | ⟨hu, hr_3, hh_3⟩
  · cases hu
    have hP : va_P (dC, dI) vwCl [(h, .inr (9, [.ref aT, .ref aB, .ref aS, .ref aR, .ref aF, .ref aC, .ref aX])), (aS, .inr (6, [.ref ce, .ref pl, .int sln, .int srs])), (ce, .inl (cI, 2048, .inl fc)), (pl, .inl (cI, 128, .inl fp))] H := hP
    have hD : va_D A [(h, .inr (9, [.ref aT, .ref aB, .ref aS, .ref aR, .ref aF, .ref aC, .ref aX])), (aS, .inr (6, [.ref ce, .ref pl, .int sln, .int srs])), (ce, .inl (cI, 2048, .inl fc)), (pl, .inl (cI, 128, .inl fp))] := hD
    refine g_topi (y := 1) hr_3 ?_
    have hh3 := hh_3
    obtain ⟨ca, cb, cd, hca, hcb, hcd, e1, e2, e3⟩ := cells_n hh_3
    subst e1 e2 e3
    refine lv_if_eq (tgt := 22) hx hb dX10_cellOf_6 (by decide) (fun c_6 => absurd c_6 (by decide)) (fun c_6 => ?_)
    refine lv_aload_n hx hb dX10_cellOf_9 rfl (lv_at hl 0 rfl) ?_
    refine va_get (D := (dC, dI)) (ci := 9) (v := .ref aS) (C := RX10) (T := TX10) (N := 7) hx hb hts iwX10 hown hK hP 0 rfl rfl 2 (by decide) (hts (.fieldLink RX10 26 "ModulePlayer" "score" "LModulePlayer$Score;") (List.mem_cons_of_mem _ kw_27)) (fun _ h9 => h9) rfl dX10_cellOf_10 ?_
    refine lv_iload_n hx hb dX10_cellOf_13 rfl (lv_at hl 1 rfl) ?_
    refine lv_iload_n hx hb dX10_cellOf_14 rfl (lv_at hl 2 rfl) ?_
    refine lv_iload_n hx hb dX10_cellOf_15 rfl (lv_at hl 3 rfl) ?_
    refine g_calli (wr := [(h, .inr (9, [.ref aT, .ref aB, .ref aS, .ref aR, .ref aF, .ref aC, .ref aX])), (pl, .inl (cI, 128, .inl fp))]) (va_runV (As := [.int (nI ca), .int (nI cb), .int (nI cd)]) (rest := []) ⟨hx, hb, hml, hown, hts⟩ (c_getCell l dC dI H.size aS ce pl sln srs cI fc ca cb cd (hca) (hcb) (hcd)) (cwV 3 hts (gG_V kw_586 kw_482 kw_483 kw_26 kw_484) rfl rfl rfl (by decide +kernel) ⟨Nat.le_of_ble_eq_true rfl, Nat.le_of_ble_eq_true rfl⟩) (g_preV (C := RX6) (T := TX6) (N := 4) hP hD hK hS hA hN hZ (q0 := 1) rfl rfl [1, 2] (by decide +kernel) rfl [0] rfl) rfl rfl hl.1 rfl (lv_room (Nat.le_of_ble_eq_true rfl)) dX10_cellOf_16 ⟨Nat.le_of_ble_eq_true rfl, Nat.le_of_ble_eq_true rfl⟩) hP hD hK hS hA [1, 2] [0, 3] rfl rfl (by decide +kernel) (by decide +kernel) (fun r_16 w ty1 H locs hw_16 hP hD _ hS => ?_)
    rcases hw_16 with ⟨hu, hr_16⟩
    cases hu
    have hP : va_P (dC, dI) vwCl [(h, .inr (9, [.ref aT, .ref aB, .ref aS, .ref aR, .ref aF, .ref aC, .ref aX])), (pl, .inl (cI, 128, .inl fp)), (aS, .inr (6, [.ref ce, .ref pl, .int sln, .int srs])), (ce, .inl (cI, 2048, .inl fc))] H := hP
    have hD : va_D A [(h, .inr (9, [.ref aT, .ref aB, .ref aS, .ref aR, .ref aF, .ref aC, .ref aX])), (pl, .inl (cI, 128, .inl fp)), (aS, .inr (6, [.ref ce, .ref pl, .int sln, .int srs])), (ce, .inl (cI, 2048, .inl fc))] := hD
    refine g_topi (y := fc ((ca * 64 + cb) * 4 + cd)) hr_16 ?_
    refine lv_goto (tgt := 23) hx hb dX10_cellOf_19 (by decide) ?_
    have hP9 := hP.sub (ws' := [(h, .inr (9, [.ref aT, .ref aB, .ref aS, .ref aR, .ref aF, .ref aC, .ref aX])), (aS, .inr (6, [.ref ce, .ref pl, .int sln, .int srs])), (ce, .inl (cI, 2048, .inl fc)), (pl, .inl (cI, 128, .inl fp))]) [0, 2, 3, 1] rfl
    have hD9 := hD.sub (ws' := [(h, .inr (9, [.ref aT, .ref aB, .ref aS, .ref aR, .ref aF, .ref aC, .ref aX])), (aS, .inr (6, [.ref ce, .ref pl, .int sln, .int srs])), (ce, .inl (cI, 2048, .inl fc)), (pl, .inl (cI, 128, .inl fp))]) [0, 2, 3, 1] (by decide +kernel) rfl
    have hK9 := hK.sub (tys' := []) [] rfl
    exact W.iret (v := fc ((ca * 64 + cb) * 4 + cd)) hx hb hr (fun t ht hW => ⟨⟨fc ((ca * 64 + cb) * 4 + cd), _, rfl, (Or.inl ⟨ca, cb, cd, rfl, rfl, hca, hcb, hcd, rfl, rfl, rfl⟩), by rw [ht]; exact hP9, va_K.moved hW.alike hK9, hD9⟩, hS.F ht⟩) hS.2.2 dX10_cellOf_23
  cases hu
  have hP : va_P (dC, dI) vwCl [(h, .inr (9, [.ref aT, .ref aB, .ref aS, .ref aR, .ref aF, .ref aC, .ref aX])), (aS, .inr (6, [.ref ce, .ref pl, .int sln, .int srs])), (ce, .inl (cI, 2048, .inl fc)), (pl, .inl (cI, 128, .inl fp))] H := hP
  have hD : va_D A [(h, .inr (9, [.ref aT, .ref aB, .ref aS, .ref aR, .ref aF, .ref aC, .ref aX])), (aS, .inr (6, [.ref ce, .ref pl, .int sln, .int srs])), (ce, .inl (cI, 2048, .inl fc)), (pl, .inl (cI, 128, .inl fp))] := hD
  refine g_topi (y := 0) hr_3 ?_
  refine lv_if_eq (tgt := 22) hx hb dX10_cellOf_6 (by decide) (fun c_6 => ?_) (fun c_6 => absurd c_6 (by decide))
  refine lv_iconst (v := (-1)) hx hb dX10_cellOf_22 (by decide) ?_
  have hP9 := hP
  have hD9 := hD
  have hK9 := hK.sub (tys' := []) [] rfl
  exact W.iret (v := (-1)) hx hb hr (fun t ht hW => ⟨⟨(-1), _, rfl, (Or.inr ⟨rfl, rfl, hh_3⟩), by rw [ht]; exact hP9, va_K.moved hW.alike hK9, hD9⟩, hS.F ht⟩) hS.2.2 dX10_cellOf_23

set_option maxHeartbeats 400000 in
set_option maxRecDepth 100000 in
theorem G_place (l : Launch) (dC : Nat → ClassId) (dI : Nat → Nat → Nat) (sz : Nat) (h aT aB aS aR aF aC aX : Nat) (ce pl : Nat) (sln srs : Int32) (fc fp : Nat → Int32) (cI : ClassId) (i x : Int32) : Met l yX10_place (wsG (.code yX10_place cX10_place 3 (some .boolean))) ({ frames := 1, cells := 0, slots := 0, locals := 21 }) (va_Pc [.ref h, .int i, .int x] (gP (dC, dI) [(cI, .int)] [(h, .inr (9, [.ref aT, .ref aB, .ref aS, .ref aR, .ref aF, .ref aC, .ref aX])), (aS, .inr (6, [.ref ce, .ref pl, .int sln, .int srs])), (ce, .inl (cI, 2048, .inl fc)), (pl, .inl (cI, 128, .inl fp))] sz)) (va_Qi (fun (r : Int32) (u : va_W × gT) => (∃ (jp : Nat), u = ([(h, .inr (9, [.ref aT, .ref aB, .ref aS, .ref aR, .ref aF, .ref aC, .ref aX])), (aS, .inr (6, [.ref ce, .ref pl, .int sln, .int srs])), (ce, .inl (cI, 2048, .inl fc)), (pl, .inl (cI, 128, .inl (upd fp jp x)))], []) ∧ r = 1 ∧ jp < 128 ∧ i = nI jp ∧ 0 ≤ x ∧ x < 8) ∨ (u = ([(h, .inr (9, [.ref aT, .ref aB, .ref aS, .ref aR, .ref aF, .ref aC, .ref aX])), (aS, .inr (6, [.ref ce, .ref pl, .int sln, .int srs])), (ce, .inl (cI, 2048, .inl fc)), (pl, .inl (cI, 128, .inl fp))], []) ∧ r = 0 ∧ ¬ ((0 ≤ i ∧ i < 128) ∧ (0 ≤ x ∧ x < 8)))) (gB (dC, dI) (va_A [(h, .inr (9, [.ref aT, .ref aB, .ref aS, .ref aR, .ref aF, .ref aC, .ref aX])), (aS, .inr (6, [.ref ce, .ref pl, .int sln, .int srs])), (ce, .inl (cI, 2048, .inl fc)), (pl, .inl (cI, 128, .inl fp))] sz)) (va_A [(h, .inr (9, [.ref aT, .ref aB, .ref aS, .ref aR, .ref aF, .ref aC, .ref aX])), (aS, .inr (6, [.ref ce, .ref pl, .int sln, .int srs])), (ce, .inl (cI, 2048, .inl fc)), (pl, .inl (cI, 128, .inl fp))] sz)) 0 0 (va_A [(h, .inr (9, [.ref aT, .ref aB, .ref aS, .ref aR, .ref aF, .ref aC, .ref aX])), (aS, .inr (6, [.ref ce, .ref pl, .int sln, .int srs])), (ce, .inl (cI, 2048, .inl fc)), (pl, .inl (cI, 128, .inl fp))] sz) := by
  refine Met.ofW (cc := cX10_place) (maxL := 3) (ret := (some .boolean)) (by decide) rfl ?_
  intro p e s m args below meth c s₁ B hml hv
  obtain ⟨rfl, hsz, hP, hK, hD0, hN, hZ⟩ := hv
  have hx := B.exec
  have hb := B.bytes
  have hr := B.returns
  have hts := atoms_spec (ws := (wsG (.code yX10_place cX10_place 3 (some .boolean)))) B.pre
  have hown : s.vm.findClass RX10 = some m.cls := findClass_of_methodNamed B.named
  have hlocks := B.notSynchronized
  subst hsz
  have hD := hD0.self (sz := s.heap.size)
  generalize hAe : va_A [(h, .inr (9, [.ref aT, .ref aB, .ref aS, .ref aR, .ref aF, .ref aC, .ref aX])), (aS, .inr (6, [.ref ce, .ref pl, .int sln, .int srs])), (ce, .inl (cI, 2048, .inl fc)), (pl, .inl (cI, 128, .inl fp))] s.heap.size = A at hD hZ ⊢
  have hA : ∀ q : Nat, s.heap.size ≤ q → A q := fun q h => by rw [← hAe]; exact Or.inr h
  have hl := lv_entry ([.ref h, .int i, .int x]) (n := 3) (Nat.le_of_ble_eq_true rfl)
  rw [lg_entry_eq]
  generalize (lg_sl ([.ref h, .int i, .int x]) ++ List.replicate (3 - (lg_sl ([.ref h, .int i, .int x])).length) Slot.unset).toArray = ls at hl ⊢
  have hl : lv_has ls 3 [(0, .ref h), (1, .int i), (2, .int x)] := hl
  refine g_start (A := A) hP (fun H locs hP hS => ?_)
  refine lv_iload_n hx hb dX10_place_0 rfl (lv_at hl 1 rfl) ?_
  refine lv_sipush (v := 128) hx hb dX10_place_1 (by decide) ?_
  refine g_calli (wr := [(h, .inr (9, [.ref aT, .ref aB, .ref aS, .ref aR, .ref aF, .ref aC, .ref aX])), (aS, .inr (6, [.ref ce, .ref pl, .int sln, .int srs])), (ce, .inl (cI, 2048, .inl fc)), (pl, .inl (cI, 128, .inl fp))]) (va_runS (As := [.int i, .int 128]) (rest := []) ⟨hx, hb, hml, hown, hts⟩ (c_isIn l dC dI H.size i 128 ) (va_cwS 2 hts (gG_S kw_273 kw_247 kw_2 kw_248) rfl rfl rfl (by decide +kernel) ⟨Nat.le_of_ble_eq_true rfl, Nat.le_of_ble_eq_true rfl⟩) (g_preS hP hD hK hS hA hN hZ [] (by decide) rfl [] rfl) rfl rfl hl.1 rfl (lv_room (Nat.le_of_ble_eq_true rfl)) dX10_place_4 ⟨Nat.le_of_ble_eq_true rfl, Nat.le_of_ble_eq_true rfl⟩) hP hD hK hS hA [] [0, 1, 2, 3] rfl rfl (by decide +kernel) (by decide +kernel) (fun r_4 w ty1 H locs hw_4 hP hD _ hS => ?_)
  rcases hw_4 with ⟨hu, hr_4, h_4⟩ | ⟨hu, hr_4, h_4⟩
  · cases hu
    have hP : va_P (dC, dI) vwCl [(h, .inr (9, [.ref aT, .ref aB, .ref aS, .ref aR, .ref aF, .ref aC, .ref aX])), (aS, .inr (6, [.ref ce, .ref pl, .int sln, .int srs])), (ce, .inl (cI, 2048, .inl fc)), (pl, .inl (cI, 128, .inl fp))] H := hP
    have hD : va_D A [(h, .inr (9, [.ref aT, .ref aB, .ref aS, .ref aR, .ref aF, .ref aC, .ref aX])), (aS, .inr (6, [.ref ce, .ref pl, .int sln, .int srs])), (ce, .inl (cI, 2048, .inl fc)), (pl, .inl (cI, 128, .inl fp))] := hD
    refine g_topi (y := 1) hr_4 ?_
    obtain ⟨jp, hjp, hij⟩ := i_in (n := 128) (by decide) h_4.1 h_4.2
    subst hij
    refine lv_if_eq (tgt := 19) hx hb dX10_place_7 (by decide) (fun c_7 => absurd c_7 (by decide)) (fun c_7 => ?_)
    refine lv_iload_n hx hb dX10_place_10 rfl (lv_at hl 2 rfl) ?_
    refine lv_bipush (v := 8) hx hb dX10_place_11 (by decide) ?_
    refine g_calli (wr := [(h, .inr (9, [.ref aT, .ref aB, .ref aS, .ref aR, .ref aF, .ref aC, .ref aX])), (aS, .inr (6, [.ref ce, .ref pl, .int sln, .int srs])), (ce, .inl (cI, 2048, .inl fc)), (pl, .inl (cI, 128, .inl fp))]) (va_runS (As := [.int x, .int 8]) (rest := []) ⟨hx, hb, hml, hown, hts⟩ (c_isIn l dC dI H.size x 8 ) (va_cwS 2 hts (gG_S kw_273 kw_247 kw_2 kw_248) rfl rfl rfl (by decide +kernel) ⟨Nat.le_of_ble_eq_true rfl, Nat.le_of_ble_eq_true rfl⟩) (g_preS hP hD hK hS hA hN hZ [] (by decide) rfl [] rfl) rfl rfl hl.1 rfl (lv_room (Nat.le_of_ble_eq_true rfl)) dX10_place_13 ⟨Nat.le_of_ble_eq_true rfl, Nat.le_of_ble_eq_true rfl⟩) hP hD hK hS hA [] [0, 1, 2, 3] rfl rfl (by decide +kernel) (by decide +kernel) (fun r_13 w ty1 H locs hw_13 hP hD _ hS => ?_)
    rcases hw_13 with ⟨hu, hr_13, h_13⟩ | ⟨hu, hr_13, h_13⟩
    · cases hu
      have hP : va_P (dC, dI) vwCl [(h, .inr (9, [.ref aT, .ref aB, .ref aS, .ref aR, .ref aF, .ref aC, .ref aX])), (aS, .inr (6, [.ref ce, .ref pl, .int sln, .int srs])), (ce, .inl (cI, 2048, .inl fc)), (pl, .inl (cI, 128, .inl fp))] H := hP
      have hD : va_D A [(h, .inr (9, [.ref aT, .ref aB, .ref aS, .ref aR, .ref aF, .ref aC, .ref aX])), (aS, .inr (6, [.ref ce, .ref pl, .int sln, .int srs])), (ce, .inl (cI, 2048, .inl fc)), (pl, .inl (cI, 128, .inl fp))] := hD
      refine g_topi (y := 1) hr_13 ?_
      refine lv_if_ne (tgt := 21) hx hb dX10_place_16 (by decide) (fun c_16 => ?_) (fun c_16 => absurd c_16 (by decide))
      refine lv_aload_n hx hb dX10_place_21 rfl (lv_at hl 0 rfl) ?_
      refine va_get (D := (dC, dI)) (ci := 9) (v := .ref aS) (C := RX10) (T := TX10) (N := 7) hx hb hts iwX10 hown hK hP 0 rfl rfl 2 (by decide) (hts (.fieldLink RX10 26 "ModulePlayer" "score" "LModulePlayer$Score;") (List.mem_cons_of_mem _ kw_27)) (fun _ h9 => h9) rfl dX10_place_22 ?_
      refine va_get (D := (dC, dI)) (ci := 6) (v := .ref pl) (C := RX6) (T := TX6) (N := 4) hx hb hts iwX6 hown hK hP 1 rfl rfl 1 (by decide) (hts (.fieldLink RX10 168 "ModulePlayer$Score" "places" "[I") (List.mem_cons_of_mem _ kw_595)) (fun _ h9 => h9) rfl dX10_place_25 ?_
      refine lv_iload_n hx hb dX10_place_28 rfl (lv_at hl 1 rfl) ?_
      refine lv_iload_n hx hb dX10_place_29 rfl (lv_at hl 2 rfl) ?_
      refine g_iast hx hb hK hP hD hS 3 0 rfl rfl jp (nI_clamp (Nat.lt_trans (show jp < 128 from hjp) (by decide))) (vp_in_nI (hjp) (by decide)) dX10_place_30 (fun H locs hP hD hS => ?_)
      have hP : va_P (dC, dI) vwCl [(h, .inr (9, [.ref aT, .ref aB, .ref aS, .ref aR, .ref aF, .ref aC, .ref aX])), (aS, .inr (6, [.ref ce, .ref pl, .int sln, .int srs])), (ce, .inl (cI, 2048, .inl fc)), (pl, .inl (cI, 128, .inl (upd fp jp x)))] H := hP
      have hD : va_D A [(h, .inr (9, [.ref aT, .ref aB, .ref aS, .ref aR, .ref aF, .ref aC, .ref aX])), (aS, .inr (6, [.ref ce, .ref pl, .int sln, .int srs])), (ce, .inl (cI, 2048, .inl fc)), (pl, .inl (cI, 128, .inl (upd fp jp x)))] := hD
      refine lv_iconst (v := 1) hx hb dX10_place_31 (by decide) ?_
      have hP9 := hP
      have hD9 := hD
      have hK9 := hK.sub (tys' := []) [] rfl
      exact W.zret (v := 1) hx hb hr (by decide) (fun t ht hW => ⟨⟨1, _, rfl, (Or.inl ⟨jp, rfl, rfl, hjp, rfl, h_13⟩), by rw [ht]; exact hP9, va_K.moved hW.alike hK9, hD9⟩, hS.F ht⟩) hS.2.2 dX10_place_32
    cases hu
    have hP : va_P (dC, dI) vwCl [(h, .inr (9, [.ref aT, .ref aB, .ref aS, .ref aR, .ref aF, .ref aC, .ref aX])), (aS, .inr (6, [.ref ce, .ref pl, .int sln, .int srs])), (ce, .inl (cI, 2048, .inl fc)), (pl, .inl (cI, 128, .inl fp))] H := hP
    have hD : va_D A [(h, .inr (9, [.ref aT, .ref aB, .ref aS, .ref aR, .ref aF, .ref aC, .ref aX])), (aS, .inr (6, [.ref ce, .ref pl, .int sln, .int srs])), (ce, .inl (cI, 2048, .inl fc)), (pl, .inl (cI, 128, .inl fp))] := hD
    refine g_topi (y := 0) hr_13 ?_
    refine lv_if_ne (tgt := 21) hx hb dX10_place_16 (by decide) (fun c_16 => absurd c_16 (by decide)) (fun c_16 => ?_)
    refine lv_iconst (v := 0) hx hb dX10_place_19 (by decide) ?_
    have hP9 := hP
    have hD9 := hD
    have hK9 := hK.sub (tys' := []) [] rfl
    exact W.zret (v := 0) hx hb hr (by decide) (fun t ht hW => ⟨⟨0, _, rfl, (Or.inr ⟨rfl, rfl, (fun qv => h_13 qv.2)⟩), by rw [ht]; exact hP9, va_K.moved hW.alike hK9, hD9⟩, hS.F ht⟩) hS.2.2 dX10_place_20
  cases hu
  have hP : va_P (dC, dI) vwCl [(h, .inr (9, [.ref aT, .ref aB, .ref aS, .ref aR, .ref aF, .ref aC, .ref aX])), (aS, .inr (6, [.ref ce, .ref pl, .int sln, .int srs])), (ce, .inl (cI, 2048, .inl fc)), (pl, .inl (cI, 128, .inl fp))] H := hP
  have hD : va_D A [(h, .inr (9, [.ref aT, .ref aB, .ref aS, .ref aR, .ref aF, .ref aC, .ref aX])), (aS, .inr (6, [.ref ce, .ref pl, .int sln, .int srs])), (ce, .inl (cI, 2048, .inl fc)), (pl, .inl (cI, 128, .inl fp))] := hD
  refine g_topi (y := 0) hr_4 ?_
  refine lv_if_eq (tgt := 19) hx hb dX10_place_7 (by decide) (fun c_7 => ?_) (fun c_7 => absurd c_7 (by decide))
  refine lv_iconst (v := 0) hx hb dX10_place_19 (by decide) ?_
  have hP9 := hP
  have hD9 := hD
  have hK9 := hK.sub (tys' := []) [] rfl
  exact W.zret (v := 0) hx hb hr (by decide) (fun t ht hW => ⟨⟨0, _, rfl, (Or.inr ⟨rfl, rfl, (fun qv => h_4 qv.1)⟩), by rw [ht]; exact hP9, va_K.moved hW.alike hK9, hD9⟩, hS.F ht⟩) hS.2.2 dX10_place_20

set_option maxHeartbeats 400000 in
set_option maxRecDepth 100000 in
theorem G_song (l : Launch) (dC : Nat → ClassId) (dI : Nat → Nat → Nat) (sz : Nat) (h aT aB aS aR aF aC aX : Nat) (ce pl : Nat) (sln srs : Int32) (fc fp : Nat → Int32) (cI : ClassId) (n x : Int32) : Met l yX10_song (wsG (.code yX10_song cX10_song 3 (some .boolean))) ({ frames := 0, cells := 0, slots := 0, locals := 0 }) (va_Pc [.ref h, .int n, .int x] (gP (dC, dI) [(cI, .int)] [(h, .inr (9, [.ref aT, .ref aB, .ref aS, .ref aR, .ref aF, .ref aC, .ref aX])), (aS, .inr (6, [.ref ce, .ref pl, .int sln, .int srs])), (ce, .inl (cI, 2048, .inl fc)), (pl, .inl (cI, 128, .inl fp))] sz)) (va_Qi (fun (r : Int32) (u : va_W × gT) => (u = ([(h, .inr (9, [.ref aT, .ref aB, .ref aS, .ref aR, .ref aF, .ref aC, .ref aX])), (aS, .inr (6, [.ref ce, .ref pl, .int n, .int x])), (ce, .inl (cI, 2048, .inl fc)), (pl, .inl (cI, 128, .inl fp))], []) ∧ r = 1 ∧ songP n x) ∨ (u = ([(h, .inr (9, [.ref aT, .ref aB, .ref aS, .ref aR, .ref aF, .ref aC, .ref aX])), (aS, .inr (6, [.ref ce, .ref pl, .int sln, .int srs])), (ce, .inl (cI, 2048, .inl fc)), (pl, .inl (cI, 128, .inl fp))], []) ∧ r = 0 ∧ ¬ songP n x)) (gB (dC, dI) (va_A [(h, .inr (9, [.ref aT, .ref aB, .ref aS, .ref aR, .ref aF, .ref aC, .ref aX])), (aS, .inr (6, [.ref ce, .ref pl, .int sln, .int srs])), (ce, .inl (cI, 2048, .inl fc)), (pl, .inl (cI, 128, .inl fp))] sz)) (va_A [(h, .inr (9, [.ref aT, .ref aB, .ref aS, .ref aR, .ref aF, .ref aC, .ref aX])), (aS, .inr (6, [.ref ce, .ref pl, .int sln, .int srs])), (ce, .inl (cI, 2048, .inl fc)), (pl, .inl (cI, 128, .inl fp))] sz)) 0 0 (va_A [(h, .inr (9, [.ref aT, .ref aB, .ref aS, .ref aR, .ref aF, .ref aC, .ref aX])), (aS, .inr (6, [.ref ce, .ref pl, .int sln, .int srs])), (ce, .inl (cI, 2048, .inl fc)), (pl, .inl (cI, 128, .inl fp))] sz) := by
  refine Met.ofW (cc := cX10_song) (maxL := 3) (ret := (some .boolean)) (by decide) rfl ?_
  intro p e s m args below meth c s₁ B hml hv
  obtain ⟨rfl, hsz, hP, hK, hD0, hN, hZ⟩ := hv
  have hx := B.exec
  have hb := B.bytes
  have hr := B.returns
  have hts := atoms_spec (ws := (wsG (.code yX10_song cX10_song 3 (some .boolean)))) B.pre
  have hown : s.vm.findClass RX10 = some m.cls := findClass_of_methodNamed B.named
  have hlocks := B.notSynchronized
  subst hsz
  have hD := hD0.self (sz := s.heap.size)
  generalize hAe : va_A [(h, .inr (9, [.ref aT, .ref aB, .ref aS, .ref aR, .ref aF, .ref aC, .ref aX])), (aS, .inr (6, [.ref ce, .ref pl, .int sln, .int srs])), (ce, .inl (cI, 2048, .inl fc)), (pl, .inl (cI, 128, .inl fp))] s.heap.size = A at hD hZ ⊢
  have hA : ∀ q : Nat, s.heap.size ≤ q → A q := fun q h => by rw [← hAe]; exact Or.inr h
  have hl := lv_entry ([.ref h, .int n, .int x]) (n := 3) (Nat.le_of_ble_eq_true rfl)
  rw [lg_entry_eq]
  generalize (lg_sl ([.ref h, .int n, .int x]) ++ List.replicate (3 - (lg_sl ([.ref h, .int n, .int x])).length) Slot.unset).toArray = ls at hl ⊢
  have hl : lv_has ls 3 [(0, .ref h), (1, .int n), (2, .int x)] := hl
  refine g_start (A := A) hP (fun H locs hP hS => ?_)
  refine lv_iload_n hx hb dX10_song_0 rfl (lv_at hl 1 rfl) ?_
  refine lv_iconst (v := 1) hx hb dX10_song_1 (by decide) ?_
  refine lv_icmp_lt (tgt := 23) hx hb dX10_song_2 (by decide) (fun c_2 => ?_) (fun c_2 => ?_)
  · refine lv_iconst (v := 0) hx hb dX10_song_23 (by decide) ?_
    have hP9 := hP
    have hD9 := hD
    have hK9 := hK.sub (tys' := []) [] rfl
    exact W.zret (v := 0) hx hb hr (by decide) (fun t ht hW => ⟨⟨0, _, rfl, (Or.inr ⟨rfl, rfl, (fun q => i_nle.mpr c_2 q.1.1)⟩), by rw [ht]; exact hP9, va_K.moved hW.alike hK9, hD9⟩, hS.F ht⟩) hS.2.2 dX10_song_24
  refine lv_iload_n hx hb dX10_song_5 rfl (lv_at hl 1 rfl) ?_
  refine lv_sipush (v := 128) hx hb dX10_song_6 (by decide) ?_
  refine lv_icmp_gt (tgt := 23) hx hb dX10_song_9 (by decide) (fun c_9 => ?_) (fun c_9 => ?_)
  · refine lv_iconst (v := 0) hx hb dX10_song_23 (by decide) ?_
    have hP9 := hP
    have hD9 := hD
    have hK9 := hK.sub (tys' := []) [] rfl
    exact W.zret (v := 0) hx hb hr (by decide) (fun t ht hW => ⟨⟨0, _, rfl, (Or.inr ⟨rfl, rfl, (fun q => i_nle.mpr c_9 q.1.2)⟩), by rw [ht]; exact hP9, va_K.moved hW.alike hK9, hD9⟩, hS.F ht⟩) hS.2.2 dX10_song_24
  refine lv_iload_n hx hb dX10_song_12 rfl (lv_at hl 2 rfl) ?_
  refine lv_if_lt (tgt := 23) hx hb dX10_song_13 (by decide) (fun c_13 => ?_) (fun c_13 => ?_)
  · refine lv_iconst (v := 0) hx hb dX10_song_23 (by decide) ?_
    have hP9 := hP
    have hD9 := hD
    have hK9 := hK.sub (tys' := []) [] rfl
    exact W.zret (v := 0) hx hb hr (by decide) (fun t ht hW => ⟨⟨0, _, rfl, (Or.inr ⟨rfl, rfl, (fun q => i_nle.mpr c_13 q.2.1)⟩), by rw [ht]; exact hP9, va_K.moved hW.alike hK9, hD9⟩, hS.F ht⟩) hS.2.2 dX10_song_24
  refine lv_iload_n hx hb dX10_song_16 rfl (lv_at hl 2 rfl) ?_
  refine lv_sipush (v := 255) hx hb dX10_song_17 (by decide) ?_
  refine lv_icmp_le (tgt := 25) hx hb dX10_song_20 (by decide) (fun c_20 => ?_) (fun c_20 => ?_)
  · refine lv_aload_n hx hb dX10_song_25 rfl (lv_at hl 0 rfl) ?_
    refine va_get (D := (dC, dI)) (ci := 9) (v := .ref aS) (C := RX10) (T := TX10) (N := 7) hx hb hts iwX10 hown hK hP 0 rfl rfl 2 (by decide) (hts (.fieldLink RX10 26 "ModulePlayer" "score" "LModulePlayer$Score;") (List.mem_cons_of_mem _ kw_27)) (fun _ h9 => h9) rfl dX10_song_26 ?_
    refine lv_iload_n hx hb dX10_song_29 rfl (lv_at hl 1 rfl) ?_
    refine va_put (D := (dC, dI)) (ci := 6) (v := .int n) (ty := tyX6 2) (C := RX6) (T := TX6) (N := 4) hx hb hts iwX6 tyX6 tyX6_ok nmX6 hown hK hP hD hS 1 rfl rfl 2 (by decide) (hts (.fieldLink RX10 172 "ModulePlayer$Score" "length" "I") (List.mem_cons_of_mem _ kw_604)) (fun _ h9 => h9) rfl (by decide +kernel) (rfl) (rfl) (Nat.le_of_ble_eq_true rfl) dX10_song_30 (fun H locs hP hD hS => ?_)
    have hP : va_P (dC, dI) vwCl [(h, .inr (9, [.ref aT, .ref aB, .ref aS, .ref aR, .ref aF, .ref aC, .ref aX])), (aS, .inr (6, [.ref ce, .ref pl, .int n, .int srs])), (ce, .inl (cI, 2048, .inl fc)), (pl, .inl (cI, 128, .inl fp))] H := hP
    have hD : va_D A [(h, .inr (9, [.ref aT, .ref aB, .ref aS, .ref aR, .ref aF, .ref aC, .ref aX])), (aS, .inr (6, [.ref ce, .ref pl, .int n, .int srs])), (ce, .inl (cI, 2048, .inl fc)), (pl, .inl (cI, 128, .inl fp))] := hD
    refine lv_aload_n hx hb dX10_song_33 rfl (lv_at hl 0 rfl) ?_
    refine va_get (D := (dC, dI)) (ci := 9) (v := .ref aS) (C := RX10) (T := TX10) (N := 7) hx hb hts iwX10 hown hK hP 0 rfl rfl 2 (by decide) (hts (.fieldLink RX10 26 "ModulePlayer" "score" "LModulePlayer$Score;") (List.mem_cons_of_mem _ kw_27)) (fun _ h9 => h9) rfl dX10_song_34 ?_
    refine lv_iload_n hx hb dX10_song_37 rfl (lv_at hl 2 rfl) ?_
    refine va_put (D := (dC, dI)) (ci := 6) (v := .int x) (ty := tyX6 3) (C := RX6) (T := TX6) (N := 4) hx hb hts iwX6 tyX6 tyX6_ok nmX6 hown hK hP hD hS 1 rfl rfl 3 (by decide) (hts (.fieldLink RX10 173 "ModulePlayer$Score" "restart" "I") (List.mem_cons_of_mem _ kw_605)) (fun _ h9 => h9) rfl (by decide +kernel) (rfl) (rfl) (Nat.le_of_ble_eq_true rfl) dX10_song_38 (fun H locs hP hD hS => ?_)
    have hP : va_P (dC, dI) vwCl [(h, .inr (9, [.ref aT, .ref aB, .ref aS, .ref aR, .ref aF, .ref aC, .ref aX])), (aS, .inr (6, [.ref ce, .ref pl, .int n, .int x])), (ce, .inl (cI, 2048, .inl fc)), (pl, .inl (cI, 128, .inl fp))] H := hP
    have hD : va_D A [(h, .inr (9, [.ref aT, .ref aB, .ref aS, .ref aR, .ref aF, .ref aC, .ref aX])), (aS, .inr (6, [.ref ce, .ref pl, .int n, .int x])), (ce, .inl (cI, 2048, .inl fc)), (pl, .inl (cI, 128, .inl fp))] := hD
    refine lv_iconst (v := 1) hx hb dX10_song_41 (by decide) ?_
    have hP9 := hP
    have hD9 := hD
    have hK9 := hK.sub (tys' := []) [] rfl
    exact W.zret (v := 1) hx hb hr (by decide) (fun t ht hW => ⟨⟨1, _, rfl, (Or.inl ⟨rfl, rfl, (⟨⟨i_nlt.mp c_2, i_nlt.mp c_9⟩, ⟨i_nlt.mp c_13, c_20⟩⟩)⟩), by rw [ht]; exact hP9, va_K.moved hW.alike hK9, hD9⟩, hS.F ht⟩) hS.2.2 dX10_song_42
  refine lv_iconst (v := 0) hx hb dX10_song_23 (by decide) ?_
  have hP9 := hP
  have hD9 := hD
  have hK9 := hK.sub (tys' := []) [] rfl
  exact W.zret (v := 0) hx hb hr (by decide) (fun t ht hW => ⟨⟨0, _, rfl, (Or.inr ⟨rfl, rfl, (fun q => c_20 q.2.2)⟩), by rw [ht]; exact hP9, va_K.moved hW.alike hK9, hD9⟩, hS.F ht⟩) hS.2.2 dX10_song_24

set_option maxHeartbeats 400000 in
set_option maxRecDepth 100000 in
theorem G_loop (l : Launch) (dC : Nat → ClassId) (dI : Nat → Nat → Nat) (sz : Nat) (h aT aB aS aR aF aC aX sa bb : Nat) (us : Int32) (ad : Nat → Nat) (cS cB : ClassId) (g : Nat → Option Nat) (f : Nat → Int32) (le tu vo sr lo fr : Nat → Int32) (iv av bv : Int32) (hg : ∀ x, x < 32 → g x = some (ad x)) : Met l yX10_loop (wsG (.code yX10_loop cX10_loop 5 (some .boolean))) ({ frames := 2, cells := 0, slots := 0, locals := 44 }) (va_Pc [.ref h, .int iv, .int av, .int bv] (gP (dC, dI) [(cS, .object RX5), (cB, .byte)] (([(h, .inr (9, [.ref aT, .ref aB, .ref aS, .ref aR, .ref aF, .ref aC, .ref aX])), (aB, .inr (0, [.ref sa, .ref bb, .int us])), (sa, .inl (cS, 32, .inr (.inr (.inr (.inr g))))), (bb, .inl (cB, 4000, .inl f))] : va_W) ++ famN 32 ad le tu vo sr lo fr) sz)) (va_Qi (fun (r : Int32) (u : va_W × gT) => (∃ (ks : Nat), u = ((([(h, .inr (9, [.ref aT, .ref aB, .ref aS, .ref aR, .ref aF, .ref aC, .ref aX])), (aB, .inr (0, [.ref sa, .ref bb, .int us])), (sa, .inl (cS, 32, .inr (.inr (.inr (.inr g))))), (bb, .inl (cB, 4000, .inl f))] : va_W) ++ famN 32 ad le tu vo (upd sr ks av) (upd lo ks bv) fr), []) ∧ r = 1 ∧ 1 ≤ ks ∧ ks < 32 ∧ iv = nI ks ∧ lfP (le ks) av bv) ∨ (u = ((([(h, .inr (9, [.ref aT, .ref aB, .ref aS, .ref aR, .ref aF, .ref aC, .ref aX])), (aB, .inr (0, [.ref sa, .ref bb, .int us])), (sa, .inl (cS, 32, .inr (.inr (.inr (.inr g))))), (bb, .inl (cB, 4000, .inl f))] : va_W) ++ famN 32 ad le tu vo sr lo fr), []) ∧ r = 0 ∧ ¬ loopG le iv av bv)) (gB (dC, dI) (va_A (([(h, .inr (9, [.ref aT, .ref aB, .ref aS, .ref aR, .ref aF, .ref aC, .ref aX])), (aB, .inr (0, [.ref sa, .ref bb, .int us])), (sa, .inl (cS, 32, .inr (.inr (.inr (.inr g))))), (bb, .inl (cB, 4000, .inl f))] : va_W) ++ famN 32 ad le tu vo sr lo fr) sz)) (va_A (([(h, .inr (9, [.ref aT, .ref aB, .ref aS, .ref aR, .ref aF, .ref aC, .ref aX])), (aB, .inr (0, [.ref sa, .ref bb, .int us])), (sa, .inl (cS, 32, .inr (.inr (.inr (.inr g))))), (bb, .inl (cB, 4000, .inl f))] : va_W) ++ famN 32 ad le tu vo sr lo fr) sz)) 0 0 (va_A (([(h, .inr (9, [.ref aT, .ref aB, .ref aS, .ref aR, .ref aF, .ref aC, .ref aX])), (aB, .inr (0, [.ref sa, .ref bb, .int us])), (sa, .inl (cS, 32, .inr (.inr (.inr (.inr g))))), (bb, .inl (cB, 4000, .inl f))] : va_W) ++ famN 32 ad le tu vo sr lo fr) sz) := by
  refine Met.ofW (cc := cX10_loop) (maxL := 5) (ret := (some .boolean)) (by decide) rfl ?_
  intro p e s m args below meth c s₁ B hml hv
  obtain ⟨rfl, hsz, hP, hK, hD0, hN, hZ⟩ := hv
  have hx := B.exec
  have hb := B.bytes
  have hr := B.returns
  have hts := atoms_spec (ws := (wsG (.code yX10_loop cX10_loop 5 (some .boolean)))) B.pre
  have hown : s.vm.findClass RX10 = some m.cls := findClass_of_methodNamed B.named
  have hlocks := B.notSynchronized
  subst hsz
  have hD := hD0.self (sz := s.heap.size)
  generalize hAe : va_A (([(h, .inr (9, [.ref aT, .ref aB, .ref aS, .ref aR, .ref aF, .ref aC, .ref aX])), (aB, .inr (0, [.ref sa, .ref bb, .int us])), (sa, .inl (cS, 32, .inr (.inr (.inr (.inr g))))), (bb, .inl (cB, 4000, .inl f))] : va_W) ++ famN 32 ad le tu vo sr lo fr) s.heap.size = A at hD hZ ⊢
  have hA : ∀ q : Nat, s.heap.size ≤ q → A q := fun q h => by rw [← hAe]; exact Or.inr h
  have hl := lv_entry ([.ref h, .int iv, .int av, .int bv]) (n := 5) (Nat.le_of_ble_eq_true rfl)
  rw [lg_entry_eq]
  generalize (lg_sl ([.ref h, .int iv, .int av, .int bv]) ++ List.replicate (5 - (lg_sl ([.ref h, .int iv, .int av, .int bv])).length) Slot.unset).toArray = ls at hl ⊢
  have hl : lv_has ls 5 [(0, .ref h), (1, .int iv), (2, .int av), (3, .int bv)] := hl
  refine g_start (A := A) hP (fun H locs hP hS => ?_)
  refine lv_aload_n hx hb dX10_loop_0 rfl (lv_at hl 0 rfl) ?_
  refine va_get (D := (dC, dI)) (ci := 9) (v := .ref aB) (C := RX10) (T := TX10) (N := 7) hx hb hts iwX10 hown hK hP 0 rfl rfl 1 (by decide) (hts (.fieldLink RX10 19 "ModulePlayer" "bank" "LModulePlayer$Bank;") (List.mem_cons_of_mem _ kw_23)) (fun _ h9 => h9) rfl dX10_loop_1 ?_
  refine lv_iload_n hx hb dX10_loop_4 rfl (lv_at hl 1 rfl) ?_
  refine g_calliQ (X := [(h, .inr (9, [.ref aT, .ref aB, .ref aS, .ref aR, .ref aF, .ref aC, .ref aX])), (aB, .inr (0, [.ref sa, .ref bb, .int us])), (sa, .inl (cS, 32, .inr (.inr (.inr (.inr g))))), (bb, .inl (cB, 4000, .inl f))]) (wr := [(h, .inr (9, [.ref aT, .ref aB, .ref aS, .ref aR, .ref aF, .ref aC, .ref aX])), (sa, .inl (cS, 32, .inr (.inr (.inr (.inr g))))), (bb, .inl (cB, 4000, .inl f))]) (va_runV (As := [.int iv]) (rest := []) ⟨hx, hb, hml, hown, hts⟩ (c_has l dC dI H.size aB sa bb us iv ) (cwV 1 hts (gG_V kw_535 kw_397 kw_398 kw_22 kw_399) rfl rfl rfl (by decide +kernel) ⟨Nat.le_of_ble_eq_true rfl, Nat.le_of_ble_eq_true rfl⟩) (g_preV (ws := [(h, .inr (9, [.ref aT, .ref aB, .ref aS, .ref aR, .ref aF, .ref aC, .ref aX])), (aB, .inr (0, [.ref sa, .ref bb, .int us])), (sa, .inl (cS, 32, .inr (.inr (.inr (.inr g))))), (bb, .inl (cB, 4000, .inl f))]) (C := RX0) (T := TX0) (N := 3) hP.left hD.left hK hS hA hN hZ (q0 := 1) rfl rfl [1] (by decide +kernel) rfl [] rfl) rfl rfl hl.1 rfl (lv_room (Nat.le_of_ble_eq_true rfl)) dX10_loop_5 ⟨Nat.le_of_ble_eq_true rfl, Nat.le_of_ble_eq_true rfl⟩) hP hD hK hS hA [1] [0, 2, 3] rfl rfl (by decide +kernel) (by decide +kernel) (fun r_5 w ty1 H locs hw_5 hP hD _ hS => ?_)
  rcases hw_5 with ⟨hu, hr_5, hh_5⟩ | ⟨hu, hr_5, hh_5⟩
  · cases hu
    have hP : va_P (dC, dI) vwCl (([(h, .inr (9, [.ref aT, .ref aB, .ref aS, .ref aR, .ref aF, .ref aC, .ref aX])), (sa, .inl (cS, 32, .inr (.inr (.inr (.inr g))))), (bb, .inl (cB, 4000, .inl f)), (aB, .inr (0, [.ref sa, .ref bb, .int us]))] : va_W) ++ famN 32 ad le tu vo sr lo fr) H := hP
    have hD : va_D A (([(h, .inr (9, [.ref aT, .ref aB, .ref aS, .ref aR, .ref aF, .ref aC, .ref aX])), (sa, .inl (cS, 32, .inr (.inr (.inr (.inr g))))), (bb, .inl (cB, 4000, .inl f)), (aB, .inr (0, [.ref sa, .ref bb, .int us]))] : va_W) ++ famN 32 ad le tu vo sr lo fr) := hD
    refine g_topi (y := 1) hr_5 ?_
    obtain ⟨ks, hk1, hk, hik⟩ := in_1_31 hh_5
    subst hik
    refine lv_if_ne (tgt := 13) hx hb dX10_loop_8 (by decide) (fun c_8 => ?_) (fun c_8 => absurd c_8 (by decide))
    refine lv_aload_n hx hb dX10_loop_13 rfl (lv_at hl 0 rfl) ?_
    refine va_get (D := (dC, dI)) (ci := 9) (v := .ref aB) (C := RX10) (T := TX10) (N := 7) hx hb hts iwX10 hown hK hP 0 rfl rfl 1 (by decide) (hts (.fieldLink RX10 19 "ModulePlayer" "bank" "LModulePlayer$Bank;") (List.mem_cons_of_mem _ kw_23)) (fun _ h9 => h9) rfl dX10_loop_14 ?_
    refine lv_iload_n hx hb dX10_loop_17 rfl (lv_at hl 1 rfl) ?_
    refine g_callqQ (X := [(h, .inr (9, [.ref aT, .ref aB, .ref aS, .ref aR, .ref aF, .ref aC, .ref aX])), (sa, .inl (cS, 32, .inr (.inr (.inr (.inr g))))), (bb, .inl (cB, 4000, .inl f)), (aB, .inr (0, [.ref sa, .ref bb, .int us]))]) (wr := [(h, .inr (9, [.ref aT, .ref aB, .ref aS, .ref aR, .ref aF, .ref aC, .ref aX])), (bb, .inl (cB, 4000, .inl f))]) (va_runV (As := [.int (nI ks)]) (rest := []) ⟨hx, hb, hml, hown, hts⟩ (c_get l dC dI H.size aB sa bb us ad cS g ks (hg) (hk)) (cwV 1 hts (gG_V kw_552 kw_405 kw_406 kw_22 kw_407) rfl rfl rfl (by decide +kernel) ⟨Nat.le_of_ble_eq_true rfl, Nat.le_of_ble_eq_true rfl⟩) (g_preV (ws := [(h, .inr (9, [.ref aT, .ref aB, .ref aS, .ref aR, .ref aF, .ref aC, .ref aX])), (sa, .inl (cS, 32, .inr (.inr (.inr (.inr g))))), (bb, .inl (cB, 4000, .inl f)), (aB, .inr (0, [.ref sa, .ref bb, .int us]))]) (C := RX0) (T := TX0) (N := 3) hP.left hD.left hK hS hA hN hZ (q0 := 3) rfl rfl [3, 1] (by decide +kernel) rfl [0] rfl) rfl rfl hl.1 rfl (lv_room (Nat.le_of_ble_eq_true rfl)) dX10_loop_18 ⟨Nat.le_of_ble_eq_true rfl, Nat.le_of_ble_eq_true rfl⟩) hP hD hK hS hA [3, 1] [0, 2] rfl rfl (by decide +kernel) (by decide +kernel) (fun r_18 w ty1 H locs hw_18 hP hD _ hS => ?_)
    rcases hw_18 with ⟨hu, hr_18⟩
    cases hu
    have hP : va_P (dC, dI) vwCl (([(h, .inr (9, [.ref aT, .ref aB, .ref aS, .ref aR, .ref aF, .ref aC, .ref aX])), (bb, .inl (cB, 4000, .inl f)), (aB, .inr (0, [.ref sa, .ref bb, .int us])), (sa, .inl (cS, 32, .inr (.inr (.inr (.inr g)))))] : va_W) ++ famN 32 ad le tu vo sr lo fr) H := hP
    have hD : va_D A (([(h, .inr (9, [.ref aT, .ref aB, .ref aS, .ref aR, .ref aF, .ref aC, .ref aX])), (bb, .inl (cB, 4000, .inl f)), (aB, .inr (0, [.ref sa, .ref bb, .int us])), (sa, .inl (cS, 32, .inr (.inr (.inr (.inr g)))))] : va_W) ++ famN 32 ad le tu vo sr lo fr) := hD
    subst hr_18
    refine W.eq (g2 := F0 m 21 ls [.ref (ad ks)]) rfl ?_
    refine lv_astore (lv' := [(4, .ref (ad ks)), (0, .ref h), (1, .int (nI ks)), (2, .int av), (3, .int bv)]) hx hb dX10_loop_21 hl (by decide) rfl (fun ls hl => ?_)
    refine lv_aload hx hb dX10_loop_23 (lv_at hl 0 rfl) ?_
    refine va_get (D := (dC, dI)) (ci := 5) (v := .int (le ks)) (C := RX5) (T := TX5) (N := 6) hx hb hts iwX5 hown hK hP _ (fam_at (k := ks) (hk)) rfl 0 (by decide) (hts (.fieldLink RX10 141 "ModulePlayer$Sample" "length" "I") (List.mem_cons_of_mem _ kw_549)) (fun _ h9 => h9) rfl dX10_loop_25 ?_
    refine lv_iload_n hx hb dX10_loop_28 rfl (lv_at hl 3 rfl) ?_
    refine lv_iload_n hx hb dX10_loop_29 rfl (lv_at hl 4 rfl) ?_
    refine g_calliQ (X := [(h, .inr (9, [.ref aT, .ref aB, .ref aS, .ref aR, .ref aF, .ref aC, .ref aX])), (bb, .inl (cB, 4000, .inl f)), (aB, .inr (0, [.ref sa, .ref bb, .int us])), (sa, .inl (cS, 32, .inr (.inr (.inr (.inr g)))))]) (wr := [(h, .inr (9, [.ref aT, .ref aB, .ref aS, .ref aR, .ref aF, .ref aC, .ref aX])), (bb, .inl (cB, 4000, .inl f)), (aB, .inr (0, [.ref sa, .ref bb, .int us])), (sa, .inl (cS, 32, .inr (.inr (.inr (.inr g)))))]) (va_runS (As := [.int (le ks), .int av, .int bv]) (rest := []) ⟨hx, hb, hml, hown, hts⟩ (c_loopFits l dC dI H.size (le ks) av bv ) (va_cwS 3 hts (gG_S kw_553 kw_318 kw_57 kw_319) rfl rfl rfl (by decide +kernel) ⟨Nat.le_of_ble_eq_true rfl, Nat.le_of_ble_eq_true rfl⟩) (g_preS (ws := [(h, .inr (9, [.ref aT, .ref aB, .ref aS, .ref aR, .ref aF, .ref aC, .ref aX])), (bb, .inl (cB, 4000, .inl f)), (aB, .inr (0, [.ref sa, .ref bb, .int us])), (sa, .inl (cS, 32, .inr (.inr (.inr (.inr g)))))]) hP.left hD.left hK hS hA hN hZ [] (by decide) rfl [] rfl) rfl rfl hl.1 rfl (lv_room (Nat.le_of_ble_eq_true rfl)) dX10_loop_30 ⟨Nat.le_of_ble_eq_true rfl, Nat.le_of_ble_eq_true rfl⟩) hP hD hK hS hA [] [0, 1, 2, 3] rfl rfl (by decide +kernel) (by decide +kernel) (fun r_30 w ty1 H locs hw_30 hP hD _ hS => ?_)
    rcases hw_30 with ⟨hu, hr_30, hh_30⟩ | ⟨hu, hr_30, hh_30⟩
    · cases hu
      have hP : va_P (dC, dI) vwCl (([(h, .inr (9, [.ref aT, .ref aB, .ref aS, .ref aR, .ref aF, .ref aC, .ref aX])), (bb, .inl (cB, 4000, .inl f)), (aB, .inr (0, [.ref sa, .ref bb, .int us])), (sa, .inl (cS, 32, .inr (.inr (.inr (.inr g)))))] : va_W) ++ famN 32 ad le tu vo sr lo fr) H := hP
      have hD : va_D A (([(h, .inr (9, [.ref aT, .ref aB, .ref aS, .ref aR, .ref aF, .ref aC, .ref aX])), (bb, .inl (cB, 4000, .inl f)), (aB, .inr (0, [.ref sa, .ref bb, .int us])), (sa, .inl (cS, 32, .inr (.inr (.inr (.inr g)))))] : va_W) ++ famN 32 ad le tu vo sr lo fr) := hD
      refine g_topi (y := 1) hr_30 ?_
      refine lv_if_ne (tgt := 38) hx hb dX10_loop_33 (by decide) (fun c_33 => ?_) (fun c_33 => absurd c_33 (by decide))
      refine lv_aload hx hb dX10_loop_38 (lv_at hl 0 rfl) ?_
      refine lv_iload_n hx hb dX10_loop_40 rfl (lv_at hl 3 rfl) ?_
      refine va_put (D := (dC, dI)) (ci := 5) (v := .int av) (ty := tyX5 3) (C := RX5) (T := TX5) (N := 6) hx hb hts iwX5 tyX5 tyX5_ok nmX5 hown hK hP hD hS _ (fam_at (k := ks) (hk)) rfl 3 (by decide) (hts (.fieldLink RX10 148 "ModulePlayer$Sample" "start" "I") (List.mem_cons_of_mem _ kw_550)) (fun _ h9 => h9) rfl (by decide +kernel) rfl rfl (Nat.le_of_ble_eq_true rfl) dX10_loop_41 (fun H locs hP hD hS => ?_)
      have hP : va_P (dC, dI) vwCl (([(h, .inr (9, [.ref aT, .ref aB, .ref aS, .ref aR, .ref aF, .ref aC, .ref aX])), (bb, .inl (cB, 4000, .inl f)), (aB, .inr (0, [.ref sa, .ref bb, .int us])), (sa, .inl (cS, 32, .inr (.inr (.inr (.inr g)))))] : va_W) ++ famN 32 ad le tu vo (upd sr ks av) lo fr) H := by have h9 : va_P (dC, dI) vwCl (((([(h, .inr (9, [.ref aT, .ref aB, .ref aS, .ref aR, .ref aF, .ref aC, .ref aX])), (bb, .inl (cB, 4000, .inl f)), (aB, .inr (0, [.ref sa, .ref bb, .int us])), (sa, .inl (cS, 32, .inr (.inr (.inr (.inr g)))))] : va_W) ++ famN 32 ad le tu vo sr lo fr) : va_W).set (([(h, .inr (9, [.ref aT, .ref aB, .ref aS, .ref aR, .ref aF, .ref aC, .ref aX])), (bb, .inl (cB, 4000, .inl f)), (aB, .inr (0, [.ref sa, .ref bb, .int us])), (sa, .inl (cS, 32, .inr (.inr (.inr (.inr g)))))] : va_W).length + ks) (ad ks, .inr (5, [.int ((le) ks), .int ((tu) ks), .int ((vo) ks), .int (av), .int ((lo) ks), .int ((fr) ks)]))) H := hP; rw [fam_up] at h9; simp only [upd_id] at h9 ⊢; exact h9
      have hD : va_D A (([(h, .inr (9, [.ref aT, .ref aB, .ref aS, .ref aR, .ref aF, .ref aC, .ref aX])), (bb, .inl (cB, 4000, .inl f)), (aB, .inr (0, [.ref sa, .ref bb, .int us])), (sa, .inl (cS, 32, .inr (.inr (.inr (.inr g)))))] : va_W) ++ famN 32 ad le tu vo (upd sr ks av) lo fr) := by have h9 : va_D A (((([(h, .inr (9, [.ref aT, .ref aB, .ref aS, .ref aR, .ref aF, .ref aC, .ref aX])), (bb, .inl (cB, 4000, .inl f)), (aB, .inr (0, [.ref sa, .ref bb, .int us])), (sa, .inl (cS, 32, .inr (.inr (.inr (.inr g)))))] : va_W) ++ famN 32 ad le tu vo sr lo fr) : va_W).set (([(h, .inr (9, [.ref aT, .ref aB, .ref aS, .ref aR, .ref aF, .ref aC, .ref aX])), (bb, .inl (cB, 4000, .inl f)), (aB, .inr (0, [.ref sa, .ref bb, .int us])), (sa, .inl (cS, 32, .inr (.inr (.inr (.inr g)))))] : va_W).length + ks) (ad ks, .inr (5, [.int ((le) ks), .int ((tu) ks), .int ((vo) ks), .int (av), .int ((lo) ks), .int ((fr) ks)]))) := hD; rw [fam_up] at h9; simp only [upd_id] at h9 ⊢; exact h9
      refine lv_aload hx hb dX10_loop_44 (lv_at hl 0 rfl) ?_
      refine lv_iload_n hx hb dX10_loop_46 rfl (lv_at hl 4 rfl) ?_
      refine va_put (D := (dC, dI)) (ci := 5) (v := .int bv) (ty := tyX5 4) (C := RX5) (T := TX5) (N := 6) hx hb hts iwX5 tyX5 tyX5_ok nmX5 hown hK hP hD hS _ (fam_at (k := ks) (hk)) rfl 4 (by decide) (hts (.fieldLink RX10 151 "ModulePlayer$Sample" "loop" "I") (List.mem_cons_of_mem _ kw_551)) (fun _ h9 => h9) rfl (by decide +kernel) rfl rfl (Nat.le_of_ble_eq_true rfl) dX10_loop_47 (fun H locs hP hD hS => ?_)
      have hP : va_P (dC, dI) vwCl (([(h, .inr (9, [.ref aT, .ref aB, .ref aS, .ref aR, .ref aF, .ref aC, .ref aX])), (bb, .inl (cB, 4000, .inl f)), (aB, .inr (0, [.ref sa, .ref bb, .int us])), (sa, .inl (cS, 32, .inr (.inr (.inr (.inr g)))))] : va_W) ++ famN 32 ad le tu vo (upd sr ks av) (upd lo ks bv) fr) H := by have h9 : va_P (dC, dI) vwCl (((([(h, .inr (9, [.ref aT, .ref aB, .ref aS, .ref aR, .ref aF, .ref aC, .ref aX])), (bb, .inl (cB, 4000, .inl f)), (aB, .inr (0, [.ref sa, .ref bb, .int us])), (sa, .inl (cS, 32, .inr (.inr (.inr (.inr g)))))] : va_W) ++ famN 32 ad le tu vo (upd sr ks av) lo fr) : va_W).set (([(h, .inr (9, [.ref aT, .ref aB, .ref aS, .ref aR, .ref aF, .ref aC, .ref aX])), (bb, .inl (cB, 4000, .inl f)), (aB, .inr (0, [.ref sa, .ref bb, .int us])), (sa, .inl (cS, 32, .inr (.inr (.inr (.inr g)))))] : va_W).length + ks) (ad ks, .inr (5, [.int ((le) ks), .int ((tu) ks), .int ((vo) ks), .int ((upd sr ks av) ks), .int (bv), .int ((fr) ks)]))) H := hP; rw [fam_up] at h9; simp only [upd_id] at h9 ⊢; exact h9
      have hD : va_D A (([(h, .inr (9, [.ref aT, .ref aB, .ref aS, .ref aR, .ref aF, .ref aC, .ref aX])), (bb, .inl (cB, 4000, .inl f)), (aB, .inr (0, [.ref sa, .ref bb, .int us])), (sa, .inl (cS, 32, .inr (.inr (.inr (.inr g)))))] : va_W) ++ famN 32 ad le tu vo (upd sr ks av) (upd lo ks bv) fr) := by have h9 : va_D A (((([(h, .inr (9, [.ref aT, .ref aB, .ref aS, .ref aR, .ref aF, .ref aC, .ref aX])), (bb, .inl (cB, 4000, .inl f)), (aB, .inr (0, [.ref sa, .ref bb, .int us])), (sa, .inl (cS, 32, .inr (.inr (.inr (.inr g)))))] : va_W) ++ famN 32 ad le tu vo (upd sr ks av) lo fr) : va_W).set (([(h, .inr (9, [.ref aT, .ref aB, .ref aS, .ref aR, .ref aF, .ref aC, .ref aX])), (bb, .inl (cB, 4000, .inl f)), (aB, .inr (0, [.ref sa, .ref bb, .int us])), (sa, .inl (cS, 32, .inr (.inr (.inr (.inr g)))))] : va_W).length + ks) (ad ks, .inr (5, [.int ((le) ks), .int ((tu) ks), .int ((vo) ks), .int ((upd sr ks av) ks), .int (bv), .int ((fr) ks)]))) := hD; rw [fam_up] at h9; simp only [upd_id] at h9 ⊢; exact h9
      refine lv_iconst (v := 1) hx hb dX10_loop_50 (by decide) ?_
      have hP9 := va_P.part (X := [(h, .inr (9, [.ref aT, .ref aB, .ref aS, .ref aR, .ref aF, .ref aC, .ref aX])), (bb, .inl (cB, 4000, .inl f)), (aB, .inr (0, [.ref sa, .ref bb, .int us])), (sa, .inl (cS, 32, .inr (.inr (.inr (.inr g)))))]) (cx := [(h, .inr (9, [.ref aT, .ref aB, .ref aS, .ref aR, .ref aF, .ref aC, .ref aX])), (aB, .inr (0, [.ref sa, .ref bb, .int us])), (sa, .inl (cS, 32, .inr (.inr (.inr (.inr g))))), (bb, .inl (cB, 4000, .inl f))]) hP [0, 2, 3, 1] rfl
      have hD9 := va_D.part (X := [(h, .inr (9, [.ref aT, .ref aB, .ref aS, .ref aR, .ref aF, .ref aC, .ref aX])), (bb, .inl (cB, 4000, .inl f)), (aB, .inr (0, [.ref sa, .ref bb, .int us])), (sa, .inl (cS, 32, .inr (.inr (.inr (.inr g)))))]) (cx := [(h, .inr (9, [.ref aT, .ref aB, .ref aS, .ref aR, .ref aF, .ref aC, .ref aX])), (aB, .inr (0, [.ref sa, .ref bb, .int us])), (sa, .inl (cS, 32, .inr (.inr (.inr (.inr g))))), (bb, .inl (cB, 4000, .inl f))]) hD [0, 2, 3, 1] (by decide +kernel) rfl
      have hK9 := hK.sub (tys' := []) [] rfl
      exact W.zret (v := 1) hx hb hr (by decide) (fun t ht hW => ⟨⟨1, _, rfl, (Or.inl ⟨ks, rfl, rfl, hk1, hk, rfl, hh_30⟩), by rw [ht]; exact hP9, va_K.moved hW.alike hK9, hD9⟩, hS.F ht⟩) hS.2.2 dX10_loop_51
    cases hu
    have hP : va_P (dC, dI) vwCl (([(h, .inr (9, [.ref aT, .ref aB, .ref aS, .ref aR, .ref aF, .ref aC, .ref aX])), (bb, .inl (cB, 4000, .inl f)), (aB, .inr (0, [.ref sa, .ref bb, .int us])), (sa, .inl (cS, 32, .inr (.inr (.inr (.inr g)))))] : va_W) ++ famN 32 ad le tu vo sr lo fr) H := hP
    have hD : va_D A (([(h, .inr (9, [.ref aT, .ref aB, .ref aS, .ref aR, .ref aF, .ref aC, .ref aX])), (bb, .inl (cB, 4000, .inl f)), (aB, .inr (0, [.ref sa, .ref bb, .int us])), (sa, .inl (cS, 32, .inr (.inr (.inr (.inr g)))))] : va_W) ++ famN 32 ad le tu vo sr lo fr) := hD
    refine g_topi (y := 0) hr_30 ?_
    refine lv_if_ne (tgt := 38) hx hb dX10_loop_33 (by decide) (fun c_33 => absurd c_33 (by decide)) (fun c_33 => ?_)
    refine lv_iconst (v := 0) hx hb dX10_loop_36 (by decide) ?_
    have hP9 := va_P.part (X := [(h, .inr (9, [.ref aT, .ref aB, .ref aS, .ref aR, .ref aF, .ref aC, .ref aX])), (bb, .inl (cB, 4000, .inl f)), (aB, .inr (0, [.ref sa, .ref bb, .int us])), (sa, .inl (cS, 32, .inr (.inr (.inr (.inr g)))))]) (cx := [(h, .inr (9, [.ref aT, .ref aB, .ref aS, .ref aR, .ref aF, .ref aC, .ref aX])), (aB, .inr (0, [.ref sa, .ref bb, .int us])), (sa, .inl (cS, 32, .inr (.inr (.inr (.inr g))))), (bb, .inl (cB, 4000, .inl f))]) hP [0, 2, 3, 1] rfl
    have hD9 := va_D.part (X := [(h, .inr (9, [.ref aT, .ref aB, .ref aS, .ref aR, .ref aF, .ref aC, .ref aX])), (bb, .inl (cB, 4000, .inl f)), (aB, .inr (0, [.ref sa, .ref bb, .int us])), (sa, .inl (cS, 32, .inr (.inr (.inr (.inr g)))))]) (cx := [(h, .inr (9, [.ref aT, .ref aB, .ref aS, .ref aR, .ref aF, .ref aC, .ref aX])), (aB, .inr (0, [.ref sa, .ref bb, .int us])), (sa, .inl (cS, 32, .inr (.inr (.inr (.inr g))))), (bb, .inl (cB, 4000, .inl f))]) hD [0, 2, 3, 1] (by decide +kernel) rfl
    have hK9 := hK.sub (tys' := []) [] rfl
    exact W.zret (v := 0) hx hb hr (by decide) (fun t ht hW => ⟨⟨0, _, rfl, (Or.inr ⟨rfl, rfl, (lg_f hk hh_30)⟩), by rw [ht]; exact hP9, va_K.moved hW.alike hK9, hD9⟩, hS.F ht⟩) hS.2.2 dX10_loop_37
  cases hu
  have hP : va_P (dC, dI) vwCl (([(h, .inr (9, [.ref aT, .ref aB, .ref aS, .ref aR, .ref aF, .ref aC, .ref aX])), (sa, .inl (cS, 32, .inr (.inr (.inr (.inr g))))), (bb, .inl (cB, 4000, .inl f)), (aB, .inr (0, [.ref sa, .ref bb, .int us]))] : va_W) ++ famN 32 ad le tu vo sr lo fr) H := hP
  have hD : va_D A (([(h, .inr (9, [.ref aT, .ref aB, .ref aS, .ref aR, .ref aF, .ref aC, .ref aX])), (sa, .inl (cS, 32, .inr (.inr (.inr (.inr g))))), (bb, .inl (cB, 4000, .inl f)), (aB, .inr (0, [.ref sa, .ref bb, .int us]))] : va_W) ++ famN 32 ad le tu vo sr lo fr) := hD
  refine g_topi (y := 0) hr_5 ?_
  refine lv_if_ne (tgt := 13) hx hb dX10_loop_8 (by decide) (fun c_8 => absurd c_8 (by decide)) (fun c_8 => ?_)
  refine lv_iconst (v := 0) hx hb dX10_loop_11 (by decide) ?_
  have hP9 := va_P.part (X := [(h, .inr (9, [.ref aT, .ref aB, .ref aS, .ref aR, .ref aF, .ref aC, .ref aX])), (sa, .inl (cS, 32, .inr (.inr (.inr (.inr g))))), (bb, .inl (cB, 4000, .inl f)), (aB, .inr (0, [.ref sa, .ref bb, .int us]))]) (cx := [(h, .inr (9, [.ref aT, .ref aB, .ref aS, .ref aR, .ref aF, .ref aC, .ref aX])), (aB, .inr (0, [.ref sa, .ref bb, .int us])), (sa, .inl (cS, 32, .inr (.inr (.inr (.inr g))))), (bb, .inl (cB, 4000, .inl f))]) hP [0, 3, 1, 2] rfl
  have hD9 := va_D.part (X := [(h, .inr (9, [.ref aT, .ref aB, .ref aS, .ref aR, .ref aF, .ref aC, .ref aX])), (sa, .inl (cS, 32, .inr (.inr (.inr (.inr g))))), (bb, .inl (cB, 4000, .inl f)), (aB, .inr (0, [.ref sa, .ref bb, .int us]))]) (cx := [(h, .inr (9, [.ref aT, .ref aB, .ref aS, .ref aR, .ref aF, .ref aC, .ref aX])), (aB, .inr (0, [.ref sa, .ref bb, .int us])), (sa, .inl (cS, 32, .inr (.inr (.inr (.inr g))))), (bb, .inl (cB, 4000, .inl f))]) hD [0, 3, 1, 2] (by decide +kernel) rfl
  have hK9 := hK.sub (tys' := []) [] rfl
  exact W.zret (v := 0) hx hb hr (by decide) (fun t ht hW => ⟨⟨0, _, rfl, (Or.inr ⟨rfl, rfl, (lg_has hh_5)⟩), by rw [ht]; exact hP9, va_K.moved hW.alike hK9, hD9⟩, hS.F ht⟩) hS.2.2 dX10_loop_12

set_option maxHeartbeats 400000 in
set_option maxRecDepth 100000 in
theorem g_putByte (l : Launch) (dC : Nat → ClassId) (dI : Nat → Nat → Nat) (sz : Nat) (h sa bb : Nat) (us : Int32) (ad : Nat → Nat) (cB : ClassId) (f : Nat → Int32) (le tu vo sr lo fr : Nat → Int32) (kf jb : Nat) (iv vv : Int32) (hkf : kf < 32) (hjb : jb < 4000) (ejb : fr kf + iv = nI jb) : Met l yX0_putByte (wsG (.code yX0_putByte cX0_putByte 5 none)) ({ frames := 1, cells := 0, slots := 0, locals := 21 }) (va_Pc [.ref h, .ref (ad kf), .int iv, .int vv] (gP (dC, dI) [(cB, .byte)] (([(h, .inr (0, [.ref sa, .ref bb, .int us])), (bb, .inl (cB, 4000, .inl f))] : va_W) ++ famN 32 ad le tu vo sr lo fr) sz)) (va_Qv (fun u : va_W × gT => u = ((([(h, .inr (0, [.ref sa, .ref bb, .int us])), (bb, .inl (cB, 4000, .inl (upd f jb vv.toInt8.toInt32)))] : va_W) ++ famN 32 ad le tu vo sr lo fr), [])) (gB (dC, dI) (va_A (([(h, .inr (0, [.ref sa, .ref bb, .int us])), (bb, .inl (cB, 4000, .inl f))] : va_W) ++ famN 32 ad le tu vo sr lo fr) sz)) (va_A (([(h, .inr (0, [.ref sa, .ref bb, .int us])), (bb, .inl (cB, 4000, .inl f))] : va_W) ++ famN 32 ad le tu vo sr lo fr) sz)) 0 0 (va_A (([(h, .inr (0, [.ref sa, .ref bb, .int us])), (bb, .inl (cB, 4000, .inl f))] : va_W) ++ famN 32 ad le tu vo sr lo fr) sz) := by
  refine Met.ofW (cc := cX0_putByte) (maxL := 5) (ret := none) (by decide) rfl ?_
  intro p e s m args below meth c s₁ B hml hv
  obtain ⟨rfl, hsz, hP, hK, hD0, hN, hZ⟩ := hv
  have hx := B.exec
  have hb := B.bytes
  have hr := B.returns
  have hts := atoms_spec (ws := (wsG (.code yX0_putByte cX0_putByte 5 none))) B.pre
  have hown : s.vm.findClass RX0 = some m.cls := findClass_of_methodNamed B.named
  have hlocks := B.notSynchronized
  subst hsz
  have hD := hD0.self (sz := s.heap.size)
  generalize hAe : va_A (([(h, .inr (0, [.ref sa, .ref bb, .int us])), (bb, .inl (cB, 4000, .inl f))] : va_W) ++ famN 32 ad le tu vo sr lo fr) s.heap.size = A at hD hZ ⊢
  have hA : ∀ q : Nat, s.heap.size ≤ q → A q := fun q h => by rw [← hAe]; exact Or.inr h
  have hl := lv_entry ([.ref h, .ref (ad kf), .int iv, .int vv]) (n := 5) (Nat.le_of_ble_eq_true rfl)
  rw [lg_entry_eq]
  generalize (lg_sl ([.ref h, .ref (ad kf), .int iv, .int vv]) ++ List.replicate (5 - (lg_sl ([.ref h, .ref (ad kf), .int iv, .int vv])).length) Slot.unset).toArray = ls at hl ⊢
  have hl : lv_has ls 5 [(0, .ref h), (1, .ref (ad kf)), (2, .int iv), (3, .int vv)] := hl
  refine g_start (A := A) hP (fun H locs hP hS => ?_)
  refine lv_aload_n hx hb dX0_putByte_0 rfl (lv_at hl 1 rfl) ?_
  refine va_get (D := (dC, dI)) (ci := 5) (v := .int (fr kf)) (C := RX5) (T := TX5) (N := 6) hx hb hts iwX5 hown hK hP _ (fam_at (k := kf) (hkf)) rfl 5 (by decide) (hts (.fieldLink RX0 41 "ModulePlayer$Sample" "from" "I") (List.mem_cons_of_mem _ kw_382)) (fun _ h9 => h9) rfl dX0_putByte_1 ?_
  refine lv_iload_n hx hb dX0_putByte_4 rfl (lv_at hl 2 rfl) ?_
  refine lv_iadd hx hb dX0_putByte_5 ?_
  refine g_topi (y := nI jb) (ejb) ?_
  refine lv_istore (lv' := [(4, .int (nI jb)), (0, .ref h), (1, .ref (ad kf)), (2, .int iv), (3, .int vv)]) hx hb dX0_putByte_6 hl (by decide) rfl (fun ls hl => ?_)
  refine lv_iload hx hb dX0_putByte_8 (lv_at hl 0 rfl) ?_
  refine lv_sipush (v := 4000) hx hb dX0_putByte_10 (by decide) ?_
  refine g_calliQ (X := [(h, .inr (0, [.ref sa, .ref bb, .int us])), (bb, .inl (cB, 4000, .inl f))]) (wr := [(h, .inr (0, [.ref sa, .ref bb, .int us])), (bb, .inl (cB, 4000, .inl f))]) (va_runSN (As := [.int (nI jb), .int 4000]) (rest := []) ⟨hx, hb, hml, hown, hts⟩ (c_isIn l dC dI H.size (nI jb) 4000 ) ⟨va_cnB 2 hts (wsG_good kw_248) rfl rfl rfl (hN.1 (.methodLinkNest RX0 71 yX10_isIn RX10) (by decide +kernel)) (hts (.initialized RX10) (List.mem_cons_of_mem _ kw_2)) (by decide +kernel) ⟨Nat.le_of_ble_eq_true rfl, Nat.le_of_ble_eq_true rfl⟩, (hts (.static yX10_isIn) (List.mem_cons_of_mem _ kw_247)), trivial⟩ (g_preS (ws := [(h, .inr (0, [.ref sa, .ref bb, .int us])), (bb, .inl (cB, 4000, .inl f))]) hP.left hD.left hK hS hA hN hZ [] (by decide) rfl [] rfl) rfl rfl hl.1 rfl (lv_room (Nat.le_of_ble_eq_true rfl)) dX0_putByte_13 ⟨Nat.le_of_ble_eq_true rfl, Nat.le_of_ble_eq_true rfl⟩) hP hD hK hS hA [] [0, 1] rfl rfl (by decide +kernel) (by decide +kernel) (fun r_13 w ty1 H locs hw_13 hP hD _ hS => ?_)
  rcases hw_13 with ⟨hu, hr_13, h_13⟩ | ⟨hu, hr_13, h_13⟩
  · cases hu
    have hP : va_P (dC, dI) vwCl (([(h, .inr (0, [.ref sa, .ref bb, .int us])), (bb, .inl (cB, 4000, .inl f))] : va_W) ++ famN 32 ad le tu vo sr lo fr) H := hP
    have hD : va_D A (([(h, .inr (0, [.ref sa, .ref bb, .int us])), (bb, .inl (cB, 4000, .inl f))] : va_W) ++ famN 32 ad le tu vo sr lo fr) := hD
    refine g_topi (y := 1) hr_13 ?_
    refine lv_if_eq (tgt := 28) hx hb dX0_putByte_16 (by decide) (fun c_16 => absurd c_16 (by decide)) (fun c_16 => ?_)
    refine lv_aload_n hx hb dX0_putByte_19 rfl (lv_at hl 1 rfl) ?_
    refine va_get (D := (dC, dI)) (ci := 0) (v := .ref bb) (C := RX0) (T := TX0) (N := 3) hx hb hts iwX0 hown hK hP 0 rfl rfl 1 (by decide) (hts (.fieldLink RX0 17 "ModulePlayer$Bank" "bytes" "[B") (List.mem_cons_of_mem _ kw_55)) (fun _ h9 => h9) rfl dX0_putByte_20 ?_
    refine lv_iload hx hb dX0_putByte_23 (lv_at hl 0 rfl) ?_
    refine lv_iload_n hx hb dX0_putByte_25 rfl (lv_at hl 4 rfl) ?_
    refine lv_i2b (v := vv.toInt8.toInt32) hx hb dX0_putByte_26 rfl ?_
    refine g_bast hx hb hK hP hD hS 1 0 rfl rfl (x' := vv.toInt8.toInt32) (pk_vb _) jb (nI_clamp (Nat.lt_trans (show jb < 4000 from hjb) (by decide))) (vp_in_nI (hjb) (by decide)) dX0_putByte_27 (fun H locs hP hD hS => ?_)
    have hP : va_P (dC, dI) vwCl (([(h, .inr (0, [.ref sa, .ref bb, .int us])), (bb, .inl (cB, 4000, .inl (upd f jb vv.toInt8.toInt32)))] : va_W) ++ famN 32 ad le tu vo sr lo fr) H := hP
    have hD : va_D A (([(h, .inr (0, [.ref sa, .ref bb, .int us])), (bb, .inl (cB, 4000, .inl (upd f jb vv.toInt8.toInt32)))] : va_W) ++ famN 32 ad le tu vo sr lo fr) := hD
    have hP9 := hP
    have hD9 := hD
    have hK9 := hK.sub (tys' := []) [] rfl
    exact W.vret hx hb hr (fun t ht hW => ⟨⟨((([(h, .inr (0, [.ref sa, .ref bb, .int us])), (bb, .inl (cB, 4000, .inl (upd f jb vv.toInt8.toInt32)))] : va_W) ++ famN 32 ad le tu vo sr lo fr), []), rfl, rfl, by rw [ht]; exact hP9, va_K.moved hW.alike hK9, hD9⟩, hS.F ht⟩) hS.2.2 dX0_putByte_28
  exact False.elim (h_13 (isin0 hjb (by decide)))

set_option maxHeartbeats 400000 in
set_option maxRecDepth 100000 in
theorem G_wave (l : Launch) (dC : Nat → ClassId) (dI : Nat → Nat → Nat) (sz : Nat) (h aT aB aS aR aF aC aX sa bb : Nat) (us : Int32) (ad : Nat → Nat) (cS cB : ClassId) (g : Nat → Option Nat) (f : Nat → Int32) (le tu vo sr lo fr : Nat → Int32) (ln : Nat → Nat) (iv jv vv : Int32) (hg : ∀ x, x < 32 → g x = some (ad x)) (hB : bankOk ln le fr us) (hfit : sb_Fit f) : Met l yX10_wave (wsG (.code yX10_wave cX10_wave 4 (some .boolean))) ({ frames := 2, cells := 0, slots := 0, locals := 45 }) (va_Pc [.ref h, .int iv, .int jv, .int vv] (gP (dC, dI) [(cS, .object RX5), (cB, .byte)] (([(h, .inr (9, [.ref aT, .ref aB, .ref aS, .ref aR, .ref aF, .ref aC, .ref aX])), (aB, .inr (0, [.ref sa, .ref bb, .int us])), (sa, .inl (cS, 32, .inr (.inr (.inr (.inr g))))), (bb, .inl (cB, 4000, .inl f))] : va_W) ++ famN 32 ad le tu vo sr lo fr) sz)) (va_Qi (fun (r : Int32) (u : va_W × gT) => (∃ (ks : Nat) (js : Nat), u = ((([(h, .inr (9, [.ref aT, .ref aB, .ref aS, .ref aR, .ref aF, .ref aC, .ref aX])), (aB, .inr (0, [.ref sa, .ref bb, .int us])), (sa, .inl (cS, 32, .inr (.inr (.inr (.inr g))))), (bb, .inl (cB, 4000, .inl (upd f (sumTo ln ks + js) vv.toInt8.toInt32)))] : va_W) ++ famN 32 ad le tu vo sr lo fr), []) ∧ r = 1 ∧ 1 ≤ ks ∧ ks < 32 ∧ iv = nI ks ∧ jv = nI js ∧ js < ln ks ∧ sumTo ln ks + js < 4000 ∧ -128 ≤ vv ∧ vv ≤ 127) ∨ (u = ((([(h, .inr (9, [.ref aT, .ref aB, .ref aS, .ref aR, .ref aF, .ref aC, .ref aX])), (aB, .inr (0, [.ref sa, .ref bb, .int us])), (sa, .inl (cS, 32, .inr (.inr (.inr (.inr g))))), (bb, .inl (cB, 4000, .inl f))] : va_W) ++ famN 32 ad le tu vo sr lo fr), []) ∧ r = 0 ∧ ¬ waveG le iv jv vv)) (gB (dC, dI) (va_A (([(h, .inr (9, [.ref aT, .ref aB, .ref aS, .ref aR, .ref aF, .ref aC, .ref aX])), (aB, .inr (0, [.ref sa, .ref bb, .int us])), (sa, .inl (cS, 32, .inr (.inr (.inr (.inr g))))), (bb, .inl (cB, 4000, .inl f))] : va_W) ++ famN 32 ad le tu vo sr lo fr) sz)) (va_A (([(h, .inr (9, [.ref aT, .ref aB, .ref aS, .ref aR, .ref aF, .ref aC, .ref aX])), (aB, .inr (0, [.ref sa, .ref bb, .int us])), (sa, .inl (cS, 32, .inr (.inr (.inr (.inr g))))), (bb, .inl (cB, 4000, .inl f))] : va_W) ++ famN 32 ad le tu vo sr lo fr) sz)) 0 0 (va_A (([(h, .inr (9, [.ref aT, .ref aB, .ref aS, .ref aR, .ref aF, .ref aC, .ref aX])), (aB, .inr (0, [.ref sa, .ref bb, .int us])), (sa, .inl (cS, 32, .inr (.inr (.inr (.inr g))))), (bb, .inl (cB, 4000, .inl f))] : va_W) ++ famN 32 ad le tu vo sr lo fr) sz) := by
  refine Met.ofW (cc := cX10_wave) (maxL := 4) (ret := (some .boolean)) (by decide) rfl ?_
  intro p e s m args below meth c s₁ B hml hv
  obtain ⟨rfl, hsz, hP, hK, hD0, hN, hZ⟩ := hv
  have hx := B.exec
  have hb := B.bytes
  have hr := B.returns
  have hts := atoms_spec (ws := (wsG (.code yX10_wave cX10_wave 4 (some .boolean)))) B.pre
  have hown : s.vm.findClass RX10 = some m.cls := findClass_of_methodNamed B.named
  have hlocks := B.notSynchronized
  subst hsz
  have hD := hD0.self (sz := s.heap.size)
  generalize hAe : va_A (([(h, .inr (9, [.ref aT, .ref aB, .ref aS, .ref aR, .ref aF, .ref aC, .ref aX])), (aB, .inr (0, [.ref sa, .ref bb, .int us])), (sa, .inl (cS, 32, .inr (.inr (.inr (.inr g))))), (bb, .inl (cB, 4000, .inl f))] : va_W) ++ famN 32 ad le tu vo sr lo fr) s.heap.size = A at hD hZ ⊢
  have hA : ∀ q : Nat, s.heap.size ≤ q → A q := fun q h => by rw [← hAe]; exact Or.inr h
  have hl := lv_entry ([.ref h, .int iv, .int jv, .int vv]) (n := 4) (Nat.le_of_ble_eq_true rfl)
  rw [lg_entry_eq]
  generalize (lg_sl ([.ref h, .int iv, .int jv, .int vv]) ++ List.replicate (4 - (lg_sl ([.ref h, .int iv, .int jv, .int vv])).length) Slot.unset).toArray = ls at hl ⊢
  have hl : lv_has ls 4 [(0, .ref h), (1, .int iv), (2, .int jv), (3, .int vv)] := hl
  refine g_start (A := A) hP (fun H locs hP hS => ?_)
  refine lv_aload_n hx hb dX10_wave_0 rfl (lv_at hl 0 rfl) ?_
  refine va_get (D := (dC, dI)) (ci := 9) (v := .ref aB) (C := RX10) (T := TX10) (N := 7) hx hb hts iwX10 hown hK hP 0 rfl rfl 1 (by decide) (hts (.fieldLink RX10 19 "ModulePlayer" "bank" "LModulePlayer$Bank;") (List.mem_cons_of_mem _ kw_23)) (fun _ h9 => h9) rfl dX10_wave_1 ?_
  refine lv_iload_n hx hb dX10_wave_4 rfl (lv_at hl 1 rfl) ?_
  refine g_calliQ (X := [(h, .inr (9, [.ref aT, .ref aB, .ref aS, .ref aR, .ref aF, .ref aC, .ref aX])), (aB, .inr (0, [.ref sa, .ref bb, .int us])), (sa, .inl (cS, 32, .inr (.inr (.inr (.inr g))))), (bb, .inl (cB, 4000, .inl f))]) (wr := [(h, .inr (9, [.ref aT, .ref aB, .ref aS, .ref aR, .ref aF, .ref aC, .ref aX])), (sa, .inl (cS, 32, .inr (.inr (.inr (.inr g))))), (bb, .inl (cB, 4000, .inl f))]) (va_runV (As := [.int iv]) (rest := []) ⟨hx, hb, hml, hown, hts⟩ (c_has l dC dI H.size aB sa bb us iv ) (cwV 1 hts (gG_V kw_535 kw_397 kw_398 kw_22 kw_399) rfl rfl rfl (by decide +kernel) ⟨Nat.le_of_ble_eq_true rfl, Nat.le_of_ble_eq_true rfl⟩) (g_preV (ws := [(h, .inr (9, [.ref aT, .ref aB, .ref aS, .ref aR, .ref aF, .ref aC, .ref aX])), (aB, .inr (0, [.ref sa, .ref bb, .int us])), (sa, .inl (cS, 32, .inr (.inr (.inr (.inr g))))), (bb, .inl (cB, 4000, .inl f))]) (C := RX0) (T := TX0) (N := 3) hP.left hD.left hK hS hA hN hZ (q0 := 1) rfl rfl [1] (by decide +kernel) rfl [] rfl) rfl rfl hl.1 rfl (lv_room (Nat.le_of_ble_eq_true rfl)) dX10_wave_5 ⟨Nat.le_of_ble_eq_true rfl, Nat.le_of_ble_eq_true rfl⟩) hP hD hK hS hA [1] [0, 2, 3] rfl rfl (by decide +kernel) (by decide +kernel) (fun r_5 w ty1 H locs hw_5 hP hD _ hS => ?_)
  rcases hw_5 with ⟨hu, hr_5, hh_5⟩ | ⟨hu, hr_5, hh_5⟩
  · cases hu
    have hP : va_P (dC, dI) vwCl (([(h, .inr (9, [.ref aT, .ref aB, .ref aS, .ref aR, .ref aF, .ref aC, .ref aX])), (sa, .inl (cS, 32, .inr (.inr (.inr (.inr g))))), (bb, .inl (cB, 4000, .inl f)), (aB, .inr (0, [.ref sa, .ref bb, .int us]))] : va_W) ++ famN 32 ad le tu vo sr lo fr) H := hP
    have hD : va_D A (([(h, .inr (9, [.ref aT, .ref aB, .ref aS, .ref aR, .ref aF, .ref aC, .ref aX])), (sa, .inl (cS, 32, .inr (.inr (.inr (.inr g))))), (bb, .inl (cB, 4000, .inl f)), (aB, .inr (0, [.ref sa, .ref bb, .int us]))] : va_W) ++ famN 32 ad le tu vo sr lo fr) := hD
    refine g_topi (y := 1) hr_5 ?_
    obtain ⟨ks, hk1, hk, hik⟩ := in_1_31 hh_5
    subst hik
    refine lv_if_eq (tgt := 41) hx hb dX10_wave_8 (by decide) (fun c_8 => absurd c_8 (by decide)) (fun c_8 => ?_)
    refine lv_iload_n hx hb dX10_wave_11 rfl (lv_at hl 2 rfl) ?_
    refine lv_aload_n hx hb dX10_wave_12 rfl (lv_at hl 0 rfl) ?_
    refine va_get (D := (dC, dI)) (ci := 9) (v := .ref aB) (C := RX10) (T := TX10) (N := 7) hx hb hts iwX10 hown hK hP 0 rfl rfl 1 (by decide) (hts (.fieldLink RX10 19 "ModulePlayer" "bank" "LModulePlayer$Bank;") (List.mem_cons_of_mem _ kw_23)) (fun _ h9 => h9) rfl dX10_wave_13 ?_
    refine lv_iload_n hx hb dX10_wave_16 rfl (lv_at hl 1 rfl) ?_
    refine g_callqQ (X := [(h, .inr (9, [.ref aT, .ref aB, .ref aS, .ref aR, .ref aF, .ref aC, .ref aX])), (sa, .inl (cS, 32, .inr (.inr (.inr (.inr g))))), (bb, .inl (cB, 4000, .inl f)), (aB, .inr (0, [.ref sa, .ref bb, .int us]))]) (wr := [(h, .inr (9, [.ref aT, .ref aB, .ref aS, .ref aR, .ref aF, .ref aC, .ref aX])), (bb, .inl (cB, 4000, .inl f))]) (va_runV (As := [.int (nI ks)]) (rest := [.int jv]) ⟨hx, hb, hml, hown, hts⟩ (c_get l dC dI H.size aB sa bb us ad cS g ks (hg) (hk)) (cwV 1 hts (gG_V kw_552 kw_405 kw_406 kw_22 kw_407) rfl rfl rfl (by decide +kernel) ⟨Nat.le_of_ble_eq_true rfl, Nat.le_of_ble_eq_true rfl⟩) (g_preV (ws := [(h, .inr (9, [.ref aT, .ref aB, .ref aS, .ref aR, .ref aF, .ref aC, .ref aX])), (sa, .inl (cS, 32, .inr (.inr (.inr (.inr g))))), (bb, .inl (cB, 4000, .inl f)), (aB, .inr (0, [.ref sa, .ref bb, .int us]))]) (C := RX0) (T := TX0) (N := 3) hP.left hD.left hK hS hA hN hZ (q0 := 3) rfl rfl [3, 1] (by decide +kernel) rfl [0] rfl) rfl rfl hl.1 rfl (lv_room (Nat.le_of_ble_eq_true rfl)) dX10_wave_17 ⟨Nat.le_of_ble_eq_true rfl, Nat.le_of_ble_eq_true rfl⟩) hP hD hK hS hA [3, 1] [0, 2] rfl rfl (by decide +kernel) (by decide +kernel) (fun r_17 w ty1 H locs hw_17 hP hD _ hS => ?_)
    rcases hw_17 with ⟨hu, hr_17⟩
    cases hu
    have hP : va_P (dC, dI) vwCl (([(h, .inr (9, [.ref aT, .ref aB, .ref aS, .ref aR, .ref aF, .ref aC, .ref aX])), (bb, .inl (cB, 4000, .inl f)), (aB, .inr (0, [.ref sa, .ref bb, .int us])), (sa, .inl (cS, 32, .inr (.inr (.inr (.inr g)))))] : va_W) ++ famN 32 ad le tu vo sr lo fr) H := hP
    have hD : va_D A (([(h, .inr (9, [.ref aT, .ref aB, .ref aS, .ref aR, .ref aF, .ref aC, .ref aX])), (bb, .inl (cB, 4000, .inl f)), (aB, .inr (0, [.ref sa, .ref bb, .int us])), (sa, .inl (cS, 32, .inr (.inr (.inr (.inr g)))))] : va_W) ++ famN 32 ad le tu vo sr lo fr) := hD
    subst hr_17
    refine W.eq (g2 := F0 m 20 ls [.ref (ad ks), .int jv]) rfl ?_
    refine va_get (D := (dC, dI)) (ci := 5) (v := .int (le ks)) (C := RX5) (T := TX5) (N := 6) hx hb hts iwX5 hown hK hP _ (fam_at (k := ks) (hk)) rfl 0 (by decide) (hts (.fieldLink RX10 141 "ModulePlayer$Sample" "length" "I") (List.mem_cons_of_mem _ kw_549)) (fun _ h9 => h9) rfl dX10_wave_20 ?_
    refine g_calliQ (X := [(h, .inr (9, [.ref aT, .ref aB, .ref aS, .ref aR, .ref aF, .ref aC, .ref aX])), (bb, .inl (cB, 4000, .inl f)), (aB, .inr (0, [.ref sa, .ref bb, .int us])), (sa, .inl (cS, 32, .inr (.inr (.inr (.inr g)))))]) (wr := [(h, .inr (9, [.ref aT, .ref aB, .ref aS, .ref aR, .ref aF, .ref aC, .ref aX])), (bb, .inl (cB, 4000, .inl f)), (aB, .inr (0, [.ref sa, .ref bb, .int us])), (sa, .inl (cS, 32, .inr (.inr (.inr (.inr g)))))]) (va_runS (As := [.int jv, .int (le ks)]) (rest := []) ⟨hx, hb, hml, hown, hts⟩ (c_isIn l dC dI H.size jv (le ks) ) (va_cwS 2 hts (gG_S kw_273 kw_247 kw_2 kw_248) rfl rfl rfl (by decide +kernel) ⟨Nat.le_of_ble_eq_true rfl, Nat.le_of_ble_eq_true rfl⟩) (g_preS (ws := [(h, .inr (9, [.ref aT, .ref aB, .ref aS, .ref aR, .ref aF, .ref aC, .ref aX])), (bb, .inl (cB, 4000, .inl f)), (aB, .inr (0, [.ref sa, .ref bb, .int us])), (sa, .inl (cS, 32, .inr (.inr (.inr (.inr g)))))]) hP.left hD.left hK hS hA hN hZ [] (by decide) rfl [] rfl) rfl rfl hl.1 rfl (lv_room (Nat.le_of_ble_eq_true rfl)) dX10_wave_23 ⟨Nat.le_of_ble_eq_true rfl, Nat.le_of_ble_eq_true rfl⟩) hP hD hK hS hA [] [0, 1, 2, 3] rfl rfl (by decide +kernel) (by decide +kernel) (fun r_23 w ty1 H locs hw_23 hP hD _ hS => ?_)
    rcases hw_23 with ⟨hu, hr_23, h_23⟩ | ⟨hu, hr_23, h_23⟩
    · cases hu
      have hP : va_P (dC, dI) vwCl (([(h, .inr (9, [.ref aT, .ref aB, .ref aS, .ref aR, .ref aF, .ref aC, .ref aX])), (bb, .inl (cB, 4000, .inl f)), (aB, .inr (0, [.ref sa, .ref bb, .int us])), (sa, .inl (cS, 32, .inr (.inr (.inr (.inr g)))))] : va_W) ++ famN 32 ad le tu vo sr lo fr) H := hP
      have hD : va_D A (([(h, .inr (9, [.ref aT, .ref aB, .ref aS, .ref aR, .ref aF, .ref aC, .ref aX])), (bb, .inl (cB, 4000, .inl f)), (aB, .inr (0, [.ref sa, .ref bb, .int us])), (sa, .inl (cS, 32, .inr (.inr (.inr (.inr g)))))] : va_W) ++ famN 32 ad le tu vo sr lo fr) := hD
      refine g_topi (y := 1) hr_23 ?_
      obtain ⟨js, hjs, hij⟩ := i_in (n := ln ks) (by have := bk_sum hB hk; omega) h_23.1 (by rw [← bk_le hB hk]; exact h_23.2)
      have hjs2 : sumTo ln ks + js < 4000 := by have := bk_sum hB hk; omega
      subst hij
      refine lv_if_eq (tgt := 41) hx hb dX10_wave_26 (by decide) (fun c_26 => absurd c_26 (by decide)) (fun c_26 => ?_)
      refine lv_iload_n hx hb dX10_wave_29 rfl (lv_at hl 3 rfl) ?_
      refine lv_bipush (v := (-128)) hx hb dX10_wave_30 (by decide) ?_
      refine lv_icmp_lt (tgt := 41) hx hb dX10_wave_32 (by decide) (fun c_32 => ?_) (fun c_32 => ?_)
      · refine lv_iconst (v := 0) hx hb dX10_wave_41 (by decide) ?_
        have hP9 := va_P.part (X := [(h, .inr (9, [.ref aT, .ref aB, .ref aS, .ref aR, .ref aF, .ref aC, .ref aX])), (bb, .inl (cB, 4000, .inl f)), (aB, .inr (0, [.ref sa, .ref bb, .int us])), (sa, .inl (cS, 32, .inr (.inr (.inr (.inr g)))))]) (cx := [(h, .inr (9, [.ref aT, .ref aB, .ref aS, .ref aR, .ref aF, .ref aC, .ref aX])), (aB, .inr (0, [.ref sa, .ref bb, .int us])), (sa, .inl (cS, 32, .inr (.inr (.inr (.inr g))))), (bb, .inl (cB, 4000, .inl f))]) hP [0, 2, 3, 1] rfl
        have hD9 := va_D.part (X := [(h, .inr (9, [.ref aT, .ref aB, .ref aS, .ref aR, .ref aF, .ref aC, .ref aX])), (bb, .inl (cB, 4000, .inl f)), (aB, .inr (0, [.ref sa, .ref bb, .int us])), (sa, .inl (cS, 32, .inr (.inr (.inr (.inr g)))))]) (cx := [(h, .inr (9, [.ref aT, .ref aB, .ref aS, .ref aR, .ref aF, .ref aC, .ref aX])), (aB, .inr (0, [.ref sa, .ref bb, .int us])), (sa, .inl (cS, 32, .inr (.inr (.inr (.inr g))))), (bb, .inl (cB, 4000, .inl f))]) hD [0, 2, 3, 1] (by decide +kernel) rfl
        have hK9 := hK.sub (tys' := []) [] rfl
        exact W.zret (v := 0) hx hb hr (by decide) (fun t ht hW => ⟨⟨0, _, rfl, (Or.inr ⟨rfl, rfl, (wg_v (fun qv => i_nle.mpr c_32 qv.1))⟩), by rw [ht]; exact hP9, va_K.moved hW.alike hK9, hD9⟩, hS.F ht⟩) hS.2.2 dX10_wave_42
      refine lv_iload_n hx hb dX10_wave_35 rfl (lv_at hl 3 rfl) ?_
      refine lv_bipush (v := 127) hx hb dX10_wave_36 (by decide) ?_
      refine lv_icmp_le (tgt := 43) hx hb dX10_wave_38 (by decide) (fun c_38 => ?_) (fun c_38 => ?_)
      · refine lv_aload_n hx hb dX10_wave_43 rfl (lv_at hl 0 rfl) ?_
        refine va_get (D := (dC, dI)) (ci := 9) (v := .ref aB) (C := RX10) (T := TX10) (N := 7) hx hb hts iwX10 hown hK hP 0 rfl rfl 1 (by decide) (hts (.fieldLink RX10 19 "ModulePlayer" "bank" "LModulePlayer$Bank;") (List.mem_cons_of_mem _ kw_23)) (fun _ h9 => h9) rfl dX10_wave_44 ?_
        refine lv_aload_n hx hb dX10_wave_47 rfl (lv_at hl 0 rfl) ?_
        refine va_get (D := (dC, dI)) (ci := 9) (v := .ref aB) (C := RX10) (T := TX10) (N := 7) hx hb hts iwX10 hown hK hP 0 rfl rfl 1 (by decide) (hts (.fieldLink RX10 19 "ModulePlayer" "bank" "LModulePlayer$Bank;") (List.mem_cons_of_mem _ kw_23)) (fun _ h9 => h9) rfl dX10_wave_48 ?_
        refine lv_iload_n hx hb dX10_wave_51 rfl (lv_at hl 1 rfl) ?_
        refine g_callqQ (X := [(h, .inr (9, [.ref aT, .ref aB, .ref aS, .ref aR, .ref aF, .ref aC, .ref aX])), (bb, .inl (cB, 4000, .inl f)), (aB, .inr (0, [.ref sa, .ref bb, .int us])), (sa, .inl (cS, 32, .inr (.inr (.inr (.inr g)))))]) (wr := [(h, .inr (9, [.ref aT, .ref aB, .ref aS, .ref aR, .ref aF, .ref aC, .ref aX])), (bb, .inl (cB, 4000, .inl f))]) (va_runV (As := [.int (nI ks)]) (rest := [.ref aB]) ⟨hx, hb, hml, hown, hts⟩ (c_get l dC dI H.size aB sa bb us ad cS g ks (hg) (hk)) (cwV 1 hts (gG_V kw_552 kw_405 kw_406 kw_22 kw_407) rfl rfl rfl (by decide +kernel) ⟨Nat.le_of_ble_eq_true rfl, Nat.le_of_ble_eq_true rfl⟩) (g_preV (ws := [(h, .inr (9, [.ref aT, .ref aB, .ref aS, .ref aR, .ref aF, .ref aC, .ref aX])), (bb, .inl (cB, 4000, .inl f)), (aB, .inr (0, [.ref sa, .ref bb, .int us])), (sa, .inl (cS, 32, .inr (.inr (.inr (.inr g)))))]) (C := RX0) (T := TX0) (N := 3) hP.left hD.left hK hS hA hN hZ (q0 := 2) rfl rfl [2, 3] (by decide +kernel) rfl [0] rfl) rfl rfl hl.1 rfl (lv_room (Nat.le_of_ble_eq_true rfl)) dX10_wave_52 ⟨Nat.le_of_ble_eq_true rfl, Nat.le_of_ble_eq_true rfl⟩) hP hD hK hS hA [2, 3] [0, 1] rfl rfl (by decide +kernel) (by decide +kernel) (fun r_52 w ty1 H locs hw_52 hP hD _ hS => ?_)
        rcases hw_52 with ⟨hu, hr_52⟩
        cases hu
        have hP : va_P (dC, dI) vwCl (([(h, .inr (9, [.ref aT, .ref aB, .ref aS, .ref aR, .ref aF, .ref aC, .ref aX])), (bb, .inl (cB, 4000, .inl f)), (aB, .inr (0, [.ref sa, .ref bb, .int us])), (sa, .inl (cS, 32, .inr (.inr (.inr (.inr g)))))] : va_W) ++ famN 32 ad le tu vo sr lo fr) H := hP
        have hD : va_D A (([(h, .inr (9, [.ref aT, .ref aB, .ref aS, .ref aR, .ref aF, .ref aC, .ref aX])), (bb, .inl (cB, 4000, .inl f)), (aB, .inr (0, [.ref sa, .ref bb, .int us])), (sa, .inl (cS, 32, .inr (.inr (.inr (.inr g)))))] : va_W) ++ famN 32 ad le tu vo sr lo fr) := hD
        subst hr_52
        refine W.eq (g2 := F0 m 55 ls [.ref (ad ks), .ref aB]) rfl ?_
        refine lv_iload_n hx hb dX10_wave_55 rfl (lv_at hl 2 rfl) ?_
        refine lv_iload_n hx hb dX10_wave_56 rfl (lv_at hl 3 rfl) ?_
        refine g_callvP (X := [(h, .inr (9, [.ref aT, .ref aB, .ref aS, .ref aR, .ref aF, .ref aC, .ref aX])), (bb, .inl (cB, 4000, .inl f)), (aB, .inr (0, [.ref sa, .ref bb, .int us])), (sa, .inl (cS, 32, .inr (.inr (.inr (.inr g)))))]) (wr := [(h, .inr (9, [.ref aT, .ref aB, .ref aS, .ref aR, .ref aF, .ref aC, .ref aX])), (sa, .inl (cS, 32, .inr (.inr (.inr (.inr g)))))]) (va_runV (As := [.ref (ad ks), .int (nI js), .int vv]) (rest := []) ⟨hx, hb, hml, hown, hts⟩ (g_putByte l dC dI H.size aB sa bb us ad cB f le tu vo sr lo fr ks (sumTo ln ks + js) (nI js) vv (hk) (hjs2) (by rw [bk_fr hB hk]; exact nI_add _ _)) (cwV 3 hts (gG_V kw_562 kw_417 kw_418 kw_22 kw_419) rfl rfl rfl (by decide +kernel) ⟨Nat.le_of_ble_eq_true rfl, Nat.le_of_ble_eq_true rfl⟩) (g_preVP (X := [(h, .inr (9, [.ref aT, .ref aB, .ref aS, .ref aR, .ref aF, .ref aC, .ref aX])), (bb, .inl (cB, 4000, .inl f)), (aB, .inr (0, [.ref sa, .ref bb, .int us])), (sa, .inl (cS, 32, .inr (.inr (.inr (.inr g)))))]) (C := RX0) (T := TX0) (N := 3) hP hD hK hS hA hN hZ (q0 := 2) rfl rfl [2, 1] (by decide +kernel) rfl [1] rfl) rfl rfl hl.1 rfl (lv_room (Nat.le_of_ble_eq_true rfl)) dX10_wave_57 ⟨Nat.le_of_ble_eq_true rfl, Nat.le_of_ble_eq_true rfl⟩) hP hD hK hS hA [2, 1] [0, 3] rfl rfl (by decide +kernel) (by decide +kernel) (fun w ty1 H locs hw_57 hJ _ hS => ?_)
        have hu := hw_57
        cases hu
        obtain ⟨hP, hD⟩ := hJ _ _ rfl
        have hP : va_P (dC, dI) vwCl (([(h, .inr (9, [.ref aT, .ref aB, .ref aS, .ref aR, .ref aF, .ref aC, .ref aX])), (sa, .inl (cS, 32, .inr (.inr (.inr (.inr g))))), (aB, .inr (0, [.ref sa, .ref bb, .int us])), (bb, .inl (cB, 4000, .inl (upd f (sumTo ln ks + js) vv.toInt8.toInt32)))] : va_W) ++ famN 32 ad le tu vo sr lo fr) H := hP
        have hD : va_D A (([(h, .inr (9, [.ref aT, .ref aB, .ref aS, .ref aR, .ref aF, .ref aC, .ref aX])), (sa, .inl (cS, 32, .inr (.inr (.inr (.inr g))))), (aB, .inr (0, [.ref sa, .ref bb, .int us])), (bb, .inl (cB, 4000, .inl (upd f (sumTo ln ks + js) vv.toInt8.toInt32)))] : va_W) ++ famN 32 ad le tu vo sr lo fr) := hD
        refine lv_iconst (v := 1) hx hb dX10_wave_60 (by decide) ?_
        have hP9 := va_P.part (X := [(h, .inr (9, [.ref aT, .ref aB, .ref aS, .ref aR, .ref aF, .ref aC, .ref aX])), (sa, .inl (cS, 32, .inr (.inr (.inr (.inr g))))), (aB, .inr (0, [.ref sa, .ref bb, .int us])), (bb, .inl (cB, 4000, .inl (upd f (sumTo ln ks + js) vv.toInt8.toInt32)))]) (cx := [(h, .inr (9, [.ref aT, .ref aB, .ref aS, .ref aR, .ref aF, .ref aC, .ref aX])), (aB, .inr (0, [.ref sa, .ref bb, .int us])), (sa, .inl (cS, 32, .inr (.inr (.inr (.inr g))))), (bb, .inl (cB, 4000, .inl (upd f (sumTo ln ks + js) vv.toInt8.toInt32)))]) hP [0, 2, 1, 3] rfl
        have hD9 := va_D.part (X := [(h, .inr (9, [.ref aT, .ref aB, .ref aS, .ref aR, .ref aF, .ref aC, .ref aX])), (sa, .inl (cS, 32, .inr (.inr (.inr (.inr g))))), (aB, .inr (0, [.ref sa, .ref bb, .int us])), (bb, .inl (cB, 4000, .inl (upd f (sumTo ln ks + js) vv.toInt8.toInt32)))]) (cx := [(h, .inr (9, [.ref aT, .ref aB, .ref aS, .ref aR, .ref aF, .ref aC, .ref aX])), (aB, .inr (0, [.ref sa, .ref bb, .int us])), (sa, .inl (cS, 32, .inr (.inr (.inr (.inr g))))), (bb, .inl (cB, 4000, .inl (upd f (sumTo ln ks + js) vv.toInt8.toInt32)))]) hD [0, 2, 1, 3] (by decide +kernel) rfl
        have hK9 := hK.sub (tys' := []) [] rfl
        exact W.zret (v := 1) hx hb hr (by decide) (fun t ht hW => ⟨⟨1, _, rfl, (Or.inl ⟨ks, js, rfl, rfl, hk1, hk, rfl, rfl, hjs, hjs2, (⟨i_nlt.mp c_32, c_38⟩)⟩), by rw [ht]; exact hP9, va_K.moved hW.alike hK9, hD9⟩, hS.F ht⟩) hS.2.2 dX10_wave_61
      refine lv_iconst (v := 0) hx hb dX10_wave_41 (by decide) ?_
      have hP9 := va_P.part (X := [(h, .inr (9, [.ref aT, .ref aB, .ref aS, .ref aR, .ref aF, .ref aC, .ref aX])), (bb, .inl (cB, 4000, .inl f)), (aB, .inr (0, [.ref sa, .ref bb, .int us])), (sa, .inl (cS, 32, .inr (.inr (.inr (.inr g)))))]) (cx := [(h, .inr (9, [.ref aT, .ref aB, .ref aS, .ref aR, .ref aF, .ref aC, .ref aX])), (aB, .inr (0, [.ref sa, .ref bb, .int us])), (sa, .inl (cS, 32, .inr (.inr (.inr (.inr g))))), (bb, .inl (cB, 4000, .inl f))]) hP [0, 2, 3, 1] rfl
      have hD9 := va_D.part (X := [(h, .inr (9, [.ref aT, .ref aB, .ref aS, .ref aR, .ref aF, .ref aC, .ref aX])), (bb, .inl (cB, 4000, .inl f)), (aB, .inr (0, [.ref sa, .ref bb, .int us])), (sa, .inl (cS, 32, .inr (.inr (.inr (.inr g)))))]) (cx := [(h, .inr (9, [.ref aT, .ref aB, .ref aS, .ref aR, .ref aF, .ref aC, .ref aX])), (aB, .inr (0, [.ref sa, .ref bb, .int us])), (sa, .inl (cS, 32, .inr (.inr (.inr (.inr g))))), (bb, .inl (cB, 4000, .inl f))]) hD [0, 2, 3, 1] (by decide +kernel) rfl
      have hK9 := hK.sub (tys' := []) [] rfl
      exact W.zret (v := 0) hx hb hr (by decide) (fun t ht hW => ⟨⟨0, _, rfl, (Or.inr ⟨rfl, rfl, (wg_v (fun qv => c_38 qv.2))⟩), by rw [ht]; exact hP9, va_K.moved hW.alike hK9, hD9⟩, hS.F ht⟩) hS.2.2 dX10_wave_42
    cases hu
    have hP : va_P (dC, dI) vwCl (([(h, .inr (9, [.ref aT, .ref aB, .ref aS, .ref aR, .ref aF, .ref aC, .ref aX])), (bb, .inl (cB, 4000, .inl f)), (aB, .inr (0, [.ref sa, .ref bb, .int us])), (sa, .inl (cS, 32, .inr (.inr (.inr (.inr g)))))] : va_W) ++ famN 32 ad le tu vo sr lo fr) H := hP
    have hD : va_D A (([(h, .inr (9, [.ref aT, .ref aB, .ref aS, .ref aR, .ref aF, .ref aC, .ref aX])), (bb, .inl (cB, 4000, .inl f)), (aB, .inr (0, [.ref sa, .ref bb, .int us])), (sa, .inl (cS, 32, .inr (.inr (.inr (.inr g)))))] : va_W) ++ famN 32 ad le tu vo sr lo fr) := hD
    refine g_topi (y := 0) hr_23 ?_
    refine lv_if_eq (tgt := 41) hx hb dX10_wave_26 (by decide) (fun c_26 => ?_) (fun c_26 => absurd c_26 (by decide))
    refine lv_iconst (v := 0) hx hb dX10_wave_41 (by decide) ?_
    have hP9 := va_P.part (X := [(h, .inr (9, [.ref aT, .ref aB, .ref aS, .ref aR, .ref aF, .ref aC, .ref aX])), (bb, .inl (cB, 4000, .inl f)), (aB, .inr (0, [.ref sa, .ref bb, .int us])), (sa, .inl (cS, 32, .inr (.inr (.inr (.inr g)))))]) (cx := [(h, .inr (9, [.ref aT, .ref aB, .ref aS, .ref aR, .ref aF, .ref aC, .ref aX])), (aB, .inr (0, [.ref sa, .ref bb, .int us])), (sa, .inl (cS, 32, .inr (.inr (.inr (.inr g))))), (bb, .inl (cB, 4000, .inl f))]) hP [0, 2, 3, 1] rfl
    have hD9 := va_D.part (X := [(h, .inr (9, [.ref aT, .ref aB, .ref aS, .ref aR, .ref aF, .ref aC, .ref aX])), (bb, .inl (cB, 4000, .inl f)), (aB, .inr (0, [.ref sa, .ref bb, .int us])), (sa, .inl (cS, 32, .inr (.inr (.inr (.inr g)))))]) (cx := [(h, .inr (9, [.ref aT, .ref aB, .ref aS, .ref aR, .ref aF, .ref aC, .ref aX])), (aB, .inr (0, [.ref sa, .ref bb, .int us])), (sa, .inl (cS, 32, .inr (.inr (.inr (.inr g))))), (bb, .inl (cB, 4000, .inl f))]) hD [0, 2, 3, 1] (by decide +kernel) rfl
    have hK9 := hK.sub (tys' := []) [] rfl
    exact W.zret (v := 0) hx hb hr (by decide) (fun t ht hW => ⟨⟨0, _, rfl, (Or.inr ⟨rfl, rfl, (wg_f hk h_23)⟩), by rw [ht]; exact hP9, va_K.moved hW.alike hK9, hD9⟩, hS.F ht⟩) hS.2.2 dX10_wave_42
  cases hu
  have hP : va_P (dC, dI) vwCl (([(h, .inr (9, [.ref aT, .ref aB, .ref aS, .ref aR, .ref aF, .ref aC, .ref aX])), (sa, .inl (cS, 32, .inr (.inr (.inr (.inr g))))), (bb, .inl (cB, 4000, .inl f)), (aB, .inr (0, [.ref sa, .ref bb, .int us]))] : va_W) ++ famN 32 ad le tu vo sr lo fr) H := hP
  have hD : va_D A (([(h, .inr (9, [.ref aT, .ref aB, .ref aS, .ref aR, .ref aF, .ref aC, .ref aX])), (sa, .inl (cS, 32, .inr (.inr (.inr (.inr g))))), (bb, .inl (cB, 4000, .inl f)), (aB, .inr (0, [.ref sa, .ref bb, .int us]))] : va_W) ++ famN 32 ad le tu vo sr lo fr) := hD
  refine g_topi (y := 0) hr_5 ?_
  refine lv_if_eq (tgt := 41) hx hb dX10_wave_8 (by decide) (fun c_8 => ?_) (fun c_8 => absurd c_8 (by decide))
  refine lv_iconst (v := 0) hx hb dX10_wave_41 (by decide) ?_
  have hP9 := va_P.part (X := [(h, .inr (9, [.ref aT, .ref aB, .ref aS, .ref aR, .ref aF, .ref aC, .ref aX])), (sa, .inl (cS, 32, .inr (.inr (.inr (.inr g))))), (bb, .inl (cB, 4000, .inl f)), (aB, .inr (0, [.ref sa, .ref bb, .int us]))]) (cx := [(h, .inr (9, [.ref aT, .ref aB, .ref aS, .ref aR, .ref aF, .ref aC, .ref aX])), (aB, .inr (0, [.ref sa, .ref bb, .int us])), (sa, .inl (cS, 32, .inr (.inr (.inr (.inr g))))), (bb, .inl (cB, 4000, .inl f))]) hP [0, 3, 1, 2] rfl
  have hD9 := va_D.part (X := [(h, .inr (9, [.ref aT, .ref aB, .ref aS, .ref aR, .ref aF, .ref aC, .ref aX])), (sa, .inl (cS, 32, .inr (.inr (.inr (.inr g))))), (bb, .inl (cB, 4000, .inl f)), (aB, .inr (0, [.ref sa, .ref bb, .int us]))]) (cx := [(h, .inr (9, [.ref aT, .ref aB, .ref aS, .ref aR, .ref aF, .ref aC, .ref aX])), (aB, .inr (0, [.ref sa, .ref bb, .int us])), (sa, .inl (cS, 32, .inr (.inr (.inr (.inr g))))), (bb, .inl (cB, 4000, .inl f))]) hD [0, 3, 1, 2] (by decide +kernel) rfl
  have hK9 := hK.sub (tys' := []) [] rfl
  exact W.zret (v := 0) hx hb hr (by decide) (fun t ht hW => ⟨⟨0, _, rfl, (Or.inr ⟨rfl, rfl, (wg_has hh_5)⟩), by rw [ht]; exact hP9, va_K.moved hW.alike hK9, hD9⟩, hS.F ht⟩) hS.2.2 dX10_wave_42

