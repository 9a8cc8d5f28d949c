/-! numbers and rows of bytes -/
theorem isin1 {i n : Int32} (h1 : ¬ i < 0) (h2 : ¬ n ≤ i) : 0 ≤ i ∧ i < n := by
  rw [i_lt] at h1; rw [i_le] at h2; rw [i_le, i_lt]
  exact ⟨by have : (0 : Int32).toInt = 0 := rfl; omega, by omega⟩
theorem isin2 {i n : Int32} (h : i < 0) : ¬ (0 ≤ i ∧ i < n) := by
  rintro ⟨a, -⟩
  rw [i_lt] at h; rw [i_le] at a
  omega
theorem isin3 {i n : Int32} (h : n ≤ i) : ¬ (0 ≤ i ∧ i < n) := by
  rintro ⟨-, b⟩
  rw [i_le] at h; rw [i_lt] at b
  omega
theorem isin0 {j n : Nat} (h : j < n) (hn : n < 2 ^ 31) : 0 ≤ nI j ∧ nI j < nI n := ⟨nI_pos' (by omega), nI_lt h hn⟩
def fzero (f : Nat → Int32) (L k : Nat) : Nat → Int32 := fun x => if L ≤ x ∧ x < k then 0 else f x
def fput (f : Nat → Int32) (L j : Nat) (v : Int32) : Nat → Int32 := fun x => if x = j then v.toInt8.toInt32 else if L ≤ x ∧ x < j then 0 else f x
theorem fzero_0 (f : Nat → Int32) (L : Nat) : fzero f L L = f := by
  funext x
  simp only [fzero]
  rw [if_neg (by omega)]
theorem fzero_s {f : Nat → Int32} {L k : Nat} (h : L ≤ k) : upd (fzero f L k) k 0 = fzero f L (k + 1) := by
  funext x
  simp only [fzero, upd]
  by_cases h1 : x = k
  · rw [if_pos h1, if_pos (by omega)]
  · rw [if_neg h1]
    by_cases h2 : L ≤ x ∧ x < k
    · rw [if_pos h2, if_pos (by omega)]
    · rw [if_neg h2, if_neg (by omega)]
theorem fput_e {f : Nat → Int32} {L k j : Nat} {v : Int32} (h1 : k = j ∨ k = L) (h2 : j ≤ k) : upd (fzero f L k) j v.toInt8.toInt32 = fput f L j v := by
  funext x
  simp only [fzero, fput, upd]
  by_cases h3 : x = j
  · rw [if_pos h3, if_pos h3]
  · rw [if_neg h3, if_neg h3]
    by_cases h4 : L ≤ x ∧ x < k
    · rw [if_pos h4, if_pos (by omega)]
    · rw [if_neg h4, if_neg (by omega)]
theorem mx_nI {a b : Nat} (ha : a < 2 ^ 31) (hb : b < 2 ^ 31) : (if nI a < nI b then nI b else nI a) = nI (max a b) := by
  by_cases h : a < b
  · rw [if_pos (nI_lt h hb), show max a b = b by omega]
  · rw [if_neg (nI_nlt (by omega) ha), show max a b = a by omega]
theorem mn_nI {a b : Nat} (ha : a < 2 ^ 31) (hb : b < 2 ^ 31) : (if nI b < nI a then nI b else nI a) = nI (min a b) := by
  by_cases h : b < a
  · rw [if_pos (nI_lt h ha), show min a b = b by omega]
  · rw [if_neg (nI_nlt (by omega) hb), show min a b = a by omega]
theorem nI_nle' {a b : Nat} (h : ¬ nI a ≤ nI b) (hb : b < 2 ^ 31) : b < a := by
  rcases Nat.lt_or_ge b a with q | q
  · exact q
  · exact absurd (nI_le q hb) h
theorem nI_le' {a b : Nat} (h : nI a ≤ nI b) (ha : a < 2 ^ 31) (hb : b < 2 ^ 31) : a ≤ b := (nI_leI ha hb).mp h
def fapp (f : Nat → Int32) (L : Nat) (v : Int32) : Nat → Int32 := fput (fput (fput (fput f L L (v >>> (24 &&& 31))) (L + 1) (L + 1) (v >>> (16 &&& 31))) (L + 2) (L + 2) (v >>> (8 &&& 31))) (L + 3) (L + 3) (v >>> (0 &&& 31))
def limF (v lo hi : Int32) : Int32 := if v < lo then lo else if hi < v then hi else v
theorem i_nle {x y : Int32} : ¬ x ≤ y ↔ y < x := by rw [i_le, i_lt]; omega
theorem i_nlt {x y : Int32} : ¬ x < y ↔ y ≤ x := by rw [i_le, i_lt]; omega
theorem limF1 {v lo hi : Int32} (h : ¬ lo ≤ v) : lo = limF v lo hi := by rw [limF, if_pos (i_nle.mp h)]
theorem limF2 {v lo hi : Int32} (h : lo ≤ v) (h2 : ¬ v ≤ hi) : hi = limF v lo hi := by rw [limF, if_neg (i_nlt.mpr h), if_pos (i_nle.mp h2)]
theorem limF3 {v lo hi : Int32} (h : lo ≤ v) (h2 : v ≤ hi) : v = limF v lo hi := by rw [limF, if_neg (i_nlt.mpr h), if_neg (i_nlt.mpr h2)]
/-- all 32 samples -/
def famN (n : Nat) (ad : Nat → Nat) (le tu vo sr lo fr : Nat → Int32) : va_W := (List.range n).map (fun k => (ad k, .inr (5, [.int (le k), .int (tu k), .int (vo k), .int (sr k), .int (lo k), .int (fr k)])))
theorem z_byte (n : Nat) (cA : ClassId) : vp_cell cA (n, .inl (fun _ => 0)) = arrV cA n (fun _ => defaultValue .byte) := rfl
theorem z_int (n : Nat) (cA : ClassId) : vp_cell cA (n, .inl (fun _ => 0)) = arrV cA n (fun _ => defaultValue .int) := rfl
theorem z_boolean (n : Nat) (cA : ClassId) : vp_cell cA (n, .inl (fun _ => 0)) = arrV cA n (fun _ => defaultValue .boolean) := rfl
theorem z_long (n : Nat) (cA : ClassId) : vp_cell cA (n, .inr (.inl (fun _ => 0))) = arrV cA n (fun _ => defaultValue .long) := rfl
def ffill (f : Nat → Int32) (a k : Nat) (v : Int32) : Nat → Int32 := fun x => if a ≤ x ∧ x < k then v else f x
theorem ffill_0 (f : Nat → Int32) (a : Nat) (v : Int32) : ffill f a a v = f := by
  funext x
  simp only [ffill]
  rw [if_neg (by omega)]
theorem ffill_s {f : Nat → Int32} {a k : Nat} {v : Int32} (h : a ≤ k) : upd (ffill f a k v) k v = ffill f a (k + 1) v := by
  funext x
  simp only [ffill, upd]
  by_cases h1 : x = k
  · rw [if_pos h1, if_pos (by omega)]
  · rw [if_neg h1]
    by_cases h2 : a ≤ x ∧ x < k
    · rw [if_pos h2, if_pos (by omega)]
    · rw [if_neg h2, if_neg (by omega)]
theorem ffill_e {f : Nat → Int32} {a k b : Nat} {v : Int32} (h : k = b) (x : Nat) : ffill f a k v x = if a ≤ x ∧ x < b then v else f x := by subst h; rfl
theorem updL_s {g : Nat → Int64} {k : Nat} {v : Int64} (h : ∀ x, x < k → g x = v) {x : Nat} (hx : x < k + 1) : vp_updL g k v x = v := by
  simp only [vp_updL]
  by_cases h1 : x = k
  · rw [if_pos h1]
  · rw [if_neg h1]; exact h x (by omega)
theorem upd_s {g : Nat → Int32} {k : Nat} {v : Int32} (h : ∀ x, x < k → g x = v) {x : Nat} (hx : x < k + 1) : upd g k v x = v := by
  simp only [upd]
  by_cases h1 : x = k
  · rw [if_pos h1]
  · rw [if_neg h1]; exact h x (by omega)
theorem rmap_set {α : Type} (n k : Nat) (g : Nat → α) (x : α) : ((List.range n).map g).set k x = (List.range n).map (fun j => if j = k then x else g j) := by
  apply List.ext_getElem?
  intro i
  by_cases h : i = k
  · subst h
    by_cases h2 : i < n
    · rw [List.getElem?_set_self (by simpa using h2)]
      simp [h2]
    · rw [List.getElem?_eq_none (by simpa using Nat.le_of_not_lt h2), List.getElem?_eq_none (by simpa using Nat.le_of_not_lt h2)]
  · rw [List.getElem?_set_ne (Ne.symm h)]
    by_cases h2 : i < n
    · simp [h2, h]
    · rw [List.getElem?_eq_none (by simpa using Nat.le_of_not_lt h2), List.getElem?_eq_none (by simpa using Nat.le_of_not_lt h2)]
theorem fam_at {X : va_W} {n : Nat} {ad : Nat → Nat} {le tu vo sr lo fr : Nat → Int32} {k : Nat} (h : k < n) : (X ++ famN n ad le tu vo sr lo fr)[X.length + k]? = some (ad k, .inr (5, [.int (le k), .int (tu k), .int (vo k), .int (sr k), .int (lo k), .int (fr k)])) := by
  rw [List.getElem?_append_right (Nat.le_add_right _ _), Nat.add_sub_cancel_left]
  simp [famN, h]
theorem fam_up {X : va_W} {n : Nat} {ad : Nat → Nat} {le tu vo sr lo fr : Nat → Int32} {k : Nat} {a b c d x f : Int32} : (X ++ famN n ad le tu vo sr lo fr).set (X.length + k) (ad k, .inr (5, [.int a, .int b, .int c, .int d, .int x, .int f])) = X ++ famN n ad (upd le k a) (upd tu k b) (upd vo k c) (upd sr k d) (upd lo k x) (upd fr k f) := by
  rw [List.set_append_right _ _ (Nat.le_add_right _ _), Nat.add_sub_cancel_left, famN, rmap_set]
  congr 1
  apply List.map_congr_left
  intro j _
  by_cases h : j = k
  · subst h; simp [upd]
  · simp [upd, h]
theorem upd_id (f : Nat → Int32) (k : Nat) : upd f k (f k) = f := by
  funext j
  by_cases h : j = k
  · subst h; simp [upd]
  · simp [upd, h]
theorem in_1_31 {i : Int32} (h : 1 ≤ i ∧ i ≤ 31) : ∃ k : Nat, 1 ≤ k ∧ k < 32 ∧ i = nI k := by
  obtain ⟨h1, h2⟩ := h
  rw [i_le] at h1 h2
  have e1 : (1 : Int32).toInt = 1 := rfl
  have e2 : (31 : Int32).toInt = 31 := rfl
  obtain ⟨k, hk, e, hi⟩ := i_nI (x := i) (by rw [i_le]; have : (0 : Int32).toInt = 0 := rfl; omega)
  exact ⟨k, by omega, by omega, e⟩
def lenOk (n o : Int32) : Prop := 0 ≤ n ∧ n ≤ 2000 ∧ n - n / 2 * 2 = 0 ∧ o + n ≤ 4000
theorem k0_of {k : Nat} (h : ¬ (1 ≤ nI k ∧ nI k ≤ 31)) (hk : k < 32) : k = 0 := by
  rcases Nat.eq_zero_or_pos k with q | q
  · exact q
  · exact absurd ⟨nI_le (a := 1) q (by omega), nI_le (b := 31) (by omega) (by decide)⟩ h
theorem nI_nlt2 {a b : Nat} (h : ¬ nI a < nI b) (hb : b < 2 ^ 31) : b ≤ a := by
  rcases Nat.lt_or_ge a b with q | q
  · exact absurd (nI_lt q hb) h
  · exact q
theorem nI_lt' {a b : Nat} (h : nI a < nI b) (ha : a < 2 ^ 31) (hb : b < 2 ^ 31) : a < b := (nI_ltI ha hb).mp h
def gfun (ad : Nat → Nat) (k : Nat) : Nat → Option Nat := fun j => if j < k then some (ad j) else none
theorem gfun_0 (ad : Nat → Nat) : (fun _ => none : Nat → Option Nat) = gfun ad 0 := by funext j; simp [gfun]
theorem gfun_s (ad : Nat → Nat) (k q : Nat) : va_up (gfun ad k) k (some q) = gfun (va_up ad k q) (k + 1) := by
  funext j
  by_cases h : j = k
  · subst h; simp [gfun, va_up]
  · by_cases h2 : j < k
    · simp [gfun, va_up, h, h2, show j < k + 1 by omega]
    · simp [gfun, va_up, h, h2, show ¬ j < k + 1 by omega]
theorem gfun_g {ad : Nat → Nat} {k : Nat} : ∀ x, x < k → gfun ad k x = some (ad x) := fun x h => by simp [gfun, h]
theorem fam_push {X : va_W} {n q : Nat} {ad : Nat → Nat} : (X ++ famN n ad (fun _ => 0) (fun _ => 0) (fun _ => 0) (fun _ => 0) (fun _ => 0) (fun _ => 0)) ++ [(q, .inr (5, [.int 0, .int 0, .int 0, .int 0, .int 0, .int 0]))] = X ++ famN (n + 1) (va_up ad n q) (fun _ => 0) (fun _ => 0) (fun _ => 0) (fun _ => 0) (fun _ => 0) (fun _ => 0) := by
  rw [List.append_assoc]
  congr 1
  simp only [famN, List.range_succ, List.map_append, List.map_cons, List.map_nil, va_up_self]
  congr 1
  apply List.map_congr_left
  intro j hj
  have : j ≠ n := by have := List.mem_range.mp hj; omega
  rw [va_up_ne _ _ this]
section GAAST
variable {p : Program} {l : Launch} {e : Env} {R : Room} {s : State} {m : MethodId} {args : Array Value} {below : List Frame} {meth : Method} {c : Code} {H : Heap} {locs : List Loc} {cells slots : Nat} {Q : State → Prop} {cc : ByteArray} {pc : Nat} {ls : Array Slot} {rest : List Value} {D : va_G} {cl : List vw_C} {A : Nat → Prop} {a : Nat} {tys : gT} {ws : va_W} {H0 : Heap}
theorem g_aast (hx : p.tables.exec = Jvm.exec) (hb : c.code = cc) (hK : va_K D cl tys s) (hP : va_P D cl ws H) (hD : va_D A ws) (hS : va_S A H0 H locs) (q0 t0 qk ci : Nat) {cA : ClassId} {C : String} {T : u_T} {N : Nat} {n v : Nat} {vs : List Value} {f : Nat → Option Nat} (ha : ws[q0]? = some (a, .inl (cA, n, .inr (.inr (.inr (.inr f)))))) (ht : tys[t0]? = some (cA, .object C)) (hv : ws[qk]? = some (v, .inr (ci, vs))) (hc : cl[ci]? = some (C, T, N)) {i : Int32} (j : Nat) (hij : i.toNatClampNeg = j) (hin : vp_in i n) (hdg : decode cc pc = .ok (.aastore, 1))
    (kk : ∀ (H1 : Heap) (locs1 : List Loc), va_P D cl (ws.set q0 (a, .inl (cA, n, .inr (.inr (.inr (.inr (va_up f j (some v)))))))) H1 → va_D A (ws.set q0 (a, .inl (cA, n, .inr (.inr (.inr (.inr (va_up f j (some v)))))))) → va_S A H0 H1 locs1 → W p l e R s m args below meth c H1 locs1 cells slots Q (F0 m (pc + 1) ls rest)) : W p l e R s m args below meth c H locs cells slots Q (F0 m pc ls (.ref v :: .int i :: .ref a :: rest)) := by subst hij; exact va_astq hx hb hK hP hD hS q0 t0 qk ci ha (r := (C, T, N)) ht hv hc hin hdg kk
end GAAST
