theorem kn_0 : (Cond.methodLinkNest RX7 19 yX10_isIn RX10) ∈ lw_tbl := List.mem_of_getElem? (i := 466) (by decide +kernel)
theorem kn_1 : (Cond.methodLinkNest RX6 22 yX10_isIn RX10) ∈ lw_tbl := List.mem_of_getElem? (i := 566) (by decide +kernel)
theorem kn_2 : (Cond.methodLinkNest RX4 18 yX10_isIn RX10) ∈ lw_tbl := List.mem_of_getElem? (i := 502) (by decide +kernel)
theorem kn_3 : (Cond.methodLinkNest RX2 105 yX10_isIn RX10) ∈ lw_tbl := List.mem_of_getElem? (i := 723) (by decide +kernel)
theorem kn_4 : (Cond.methodLinkNest RX1 133 yX10_limit RX10) ∈ lw_tbl := List.mem_of_getElem? (i := 770) (by decide +kernel)
theorem kn_5 : (Cond.methodLinkNest RX1 11 yX8_init RX10) ∈ lw_tbl := List.mem_of_getElem? (i := 276) (by decide +kernel)
theorem kn_6 : (Cond.methodLinkNest RX0 71 yX10_isIn RX10) ∈ lw_tbl := List.mem_of_getElem? (i := 610) (by decide +kernel)
theorem kn_7 : (Cond.methodLinkNest RX0 21 yX5_init RX10) ∈ lw_tbl := List.mem_of_getElem? (i := 111) (by decide +kernel)
theorem kn_8 : (Cond.methodLinkNest RX10 9 yX7_init RX10) ∈ lw_tbl := List.mem_of_getElem? (i := 88) (by decide +kernel)
theorem kn_9 : (Cond.methodLinkNest RX10 32 yX4_init RX10) ∈ lw_tbl := List.mem_of_getElem? (i := 192) (by decide +kernel)
theorem kn_10 : (Cond.methodLinkNest RX10 25 yX6_init RX10) ∈ lw_tbl := List.mem_of_getElem? (i := 162) (by decide +kernel)
theorem ko_C : (Cond.arrayOver (.object RX1)) ∈ lw_tbl := List.mem_of_getElem? (i := 268) (by decide +kernel)
theorem ko_S : (Cond.arrayOver (.object RX5)) ∈ lw_tbl := List.mem_of_getElem? (i := 109) (by decide +kernel)
theorem kl_1 : (Cond.laysStatic RX4 "MARK" "[I") ∈ lw_tbl := List.mem_of_getElem? (i := 504) (by decide +kernel)
theorem kl_2 : (Cond.laysStatic RX11 "MAGIC" "[I") ∈ lw_tbl := List.mem_of_getElem? (i := 1118) (by decide +kernel)
theorem law_N {s : State} {b : Nat} (hts0 : ∀ w ∈ lw_tbl, w.before #[Value.ref b] s = true) : gN s := by
  refine ⟨fun w hw => ?_, va_AO.of (hts0 _ ko_C), va_AO.of (hts0 _ ko_S)⟩
  simp only [nestWords, List.mem_cons, List.not_mem_nil, or_false] at hw
  rcases hw with rfl | rfl | rfl | rfl | rfl | rfl | rfl | rfl | rfl | rfl | rfl
  · exact va_Nw.of rfl (hts0 _ kn_0)
  · exact va_Nw.of rfl (hts0 _ kn_1)
  · exact va_Nw.of rfl (hts0 _ kn_2)
  · exact va_Nw.of rfl (hts0 _ kn_3)
  · exact va_Nw.of rfl (hts0 _ kn_4)
  · exact va_Nw.of rfl (hts0 _ kn_5)
  · exact va_Nw.of rfl (hts0 _ kn_6)
  · exact va_Nw.of rfl (hts0 _ kn_7)
  · exact va_Nw.of rfl (hts0 _ kn_8)
  · exact va_Nw.of rfl (hts0 _ kn_9)
  · exact va_Nw.of rfl (hts0 _ kn_10)
theorem law_Z1 {s : State} {b : Nat} {A : Nat → Prop} (hts0 : ∀ w ∈ lw_tbl, w.before #[Value.ref b] s = true) (hgv : (Jvm.Cond.and given_1 narrow_1).before #[Value.ref b] s = true) (hAn : ∀ a : Nat, a < s.heap.size → ¬ A a) : gZ1 "ModulePlayer$Reader" "MARK" A s s.heap := by
  have hs := flat_of_before _ hgv
  have harr : (Cond.arrayOf (Term.static "ModulePlayer$Reader" "MARK" "[I") .int).before #[Value.ref b] s = true := hs _ (by decide +kernel)
  have hlen : (Cond.eq (.length (Term.static "ModulePlayer$Reader" "MARK" "[I")) (.int 4)).before #[Value.ref b] s = true := hs _ (by decide +kernel)
  have h0 : (Cond.eq (.elem (Term.static "ModulePlayer$Reader" "MARK" "[I") (.int 0)) (.int 77)).before #[Value.ref b] s = true := hs _ (by decide +kernel)
  have h1 : (Cond.eq (.elem (Term.static "ModulePlayer$Reader" "MARK" "[I") (.int 1)) (.int 46)).before #[Value.ref b] s = true := hs _ (by decide +kernel)
  have h2 : (Cond.eq (.elem (Term.static "ModulePlayer$Reader" "MARK" "[I") (.int 2)) (.int 75)).before #[Value.ref b] s = true := hs _ (by decide +kernel)
  have h3 : (Cond.eq (.elem (Term.static "ModulePlayer$Reader" "MARK" "[I") (.int 3)) (.int 46)).before #[Value.ref b] s = true := hs _ (by decide +kernel)
  obtain ⟨tq, e1, e2⟩ := va_Tof (A := A) (N := 4) (f := fMark) (by decide) harr (va_eqt hlen) (fun jj hj => by
    rcases (show jj = 0 ∨ jj = 1 ∨ jj = 2 ∨ jj = 3 by omega) with rfl | rfl | rfl | rfl
    · exact va_eqt h0
    · exact va_eqt h1
    · exact va_eqt h2
    · exact va_eqt h3) hAn
  exact ⟨tq, va_Zref (hts0 _ kl_1) (hts0 _ (wsL_in _ kw_30)) e1 hAn, e2⟩
theorem law_Z2 {s : State} {b : Nat} {A : Nat → Prop} (hts0 : ∀ w ∈ lw_tbl, w.before #[Value.ref b] s = true) (hgv : (Jvm.Cond.and given_1 narrow_1).before #[Value.ref b] s = true) (hAn : ∀ a : Nat, a < s.heap.size → ¬ A a) : gZ1 "ModulePlayerModel" "MAGIC" A s s.heap := by
  have hs := flat_of_before _ hgv
  have harr : (Cond.arrayOf (Term.static "ModulePlayerModel" "MAGIC" "[I") .int).before #[Value.ref b] s = true := hs _ (by decide +kernel)
  have hlen : (Cond.eq (.length (Term.static "ModulePlayerModel" "MAGIC" "[I")) (.int 4)).before #[Value.ref b] s = true := hs _ (by decide +kernel)
  have h0 : (Cond.eq (.elem (Term.static "ModulePlayerModel" "MAGIC" "[I") (.int 0)) (.int 77)).before #[Value.ref b] s = true := hs _ (by decide +kernel)
  have h1 : (Cond.eq (.elem (Term.static "ModulePlayerModel" "MAGIC" "[I") (.int 1)) (.int 46)).before #[Value.ref b] s = true := hs _ (by decide +kernel)
  have h2 : (Cond.eq (.elem (Term.static "ModulePlayerModel" "MAGIC" "[I") (.int 2)) (.int 75)).before #[Value.ref b] s = true := hs _ (by decide +kernel)
  have h3 : (Cond.eq (.elem (Term.static "ModulePlayerModel" "MAGIC" "[I") (.int 3)) (.int 46)).before #[Value.ref b] s = true := hs _ (by decide +kernel)
  obtain ⟨tq, e1, e2⟩ := va_Tof (A := A) (N := 4) (f := fMark) (by decide) harr (va_eqt hlen) (fun jj hj => by
    rcases (show jj = 0 ∨ jj = 1 ∨ jj = 2 ∨ jj = 3 by omega) with rfl | rfl | rfl | rfl
    · exact va_eqt h0
    · exact va_eqt h1
    · exact va_eqt h2
    · exact va_eqt h3) hAn
  exact ⟨tq, va_Zref (hts0 _ kl_2) (hts0 _ (wsL_in _ kw_5)) e1 hAn, e2⟩
