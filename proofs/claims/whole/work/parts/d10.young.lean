/-! ### A token that is being made: its cells have the label 6 -/
section YNG
variable {ow ow' ow2 : Nat → Nat} {g g' g2 : ag_H} {lc : Nat → Nat} {ln : Nat} {M : List g_Cl} {Bs : List (List g_Cl)} {D : List g_Cl} {Ts : List w_T} {K most more : Nat} {re : Int32} {rd : Nat} {un : Int32} {Gs : List j_R} {mk : Nat}
theorem cO_ext6 (hn : g.1 ≤ g'.1) (hq : ∀ q, ow q ≠ 1 → ow q ≠ 6 → q < g.1 → g'.2.2 q = g.2.2 q) (hg : 75 ≤ g.1) (r : cO ow g mk M Bs D Ts) : cO ow g' mk M Bs D Ts := by
  obtain ⟨h1, ⟨h2, h3⟩, h4, h5, h6, h7, h8, h9, lm, h10, h11⟩ := r
  have qk : ∀ k, k ≠ 1 → k ≠ 6 → ∀ q, own ow k q → q < g.1 → g'.2.2 q = g.2.2 q := fun k a b q h => hq q (fun e => by have h : ow q = k := h; omega) (fun e => by have h : ow q = k := h; omega)
  have q0 := qk 0 (by decide) (by decide)
  exact ⟨h1, ⟨h2, (q0 46 h2 (by omega)).trans h3⟩, al_rep_mono (fun _ h _ => h) (fun _ _ _ h => cl_ext hn q0 h) (al_rep_ext hn (qk 2 (by decide) (by decide)) h4), al_rep_mono (fun _ h _ => h) (fun _ _ _ h => bl_ext hn q0 h) (al_rep_ext hn (qk 3 (by decide) (by decide)) h5), al_rep_mono (fun _ h _ => h) (fun _ _ _ h => tk_ext hn q0 h) (al_rep_ext hn (qk 4 (by decide) (by decide)) h6), h7, h8, Nat.lt_of_lt_of_le h9 hn, lm, (q0 mk h7 h9).trans h10, al_rep_mono (fun _ h _ => h) (fun _ _ _ h => cl_ext hn q0 h) (al_rep_ext hn (qk 5 (by decide) (by decide)) h11)⟩
/-- only cells with the label 6 are changed, and new ones made -/
def c6 (ow ow' : Nat → Nat) (g g' : ag_H) (a b : Nat) : Prop := 75 ≤ g.1 ∧ g.1 ≤ g'.1 ∧ g'.1 ≤ g.1 + a ∧ g.2.1 ≤ g'.2.1 ∧ g'.2.1 ≤ g.2.1 + b ∧ (∀ q, q < g.1 → ow' q = ow q) ∧ ∀ q, q < g.1 → ow q ≠ 6 → g'.2.2 q = g.2.2 q
theorem c6_rf (h : 75 ≤ g.1) : c6 ow ow g g 0 0 := ⟨h, Nat.le_refl _, Nat.le_refl _, Nat.le_refl _, Nat.le_refl _, fun _ _ => rfl, fun _ _ _ => rfl⟩
theorem c6_tr {a b a2 b2 : Nat} (h : c6 ow ow' g g' a b) (k : c6 ow' ow2 g' g2 a2 b2) : c6 ow ow2 g g2 (a + a2) (b + b2) := by
  obtain ⟨h0, h1, h2, h3, h4, h5, h6⟩ := h
  obtain ⟨k0, k1, k2, k3, k4, k5, k6⟩ := k
  exact ⟨h0, by omega, by omega, by omega, by omega, fun q hq => (k5 q (by omega)).trans (h5 q hq), fun q hq hl => (k6 q (by omega) (by rw [h5 q hq]; exact hl)).trans (h6 q hq hl)⟩
theorem c6_up {a b a2 b2 : Nat} (h : c6 ow ow' g g' a b) (ha : a ≤ a2) (hb : b ≤ b2) : c6 ow ow' g g' a2 b2 := by
  obtain ⟨h0, h1, h2, h3, h4, h5, h6⟩ := h
  exact ⟨h0, h1, by omega, h3, by omega, h5, h6⟩
theorem c6_fr {a b : Nat} (h : c6 ow ow' g g' a b) (ho : ∀ q, ow q ≠ 1 → (46 ≤ q ∧ q < 52) ∨ 75 ≤ q) : c_fr g g' a b := by
  obtain ⟨h0, h1, h2, h3, h4, h5, h6⟩ := h
  exact ⟨h1, h2, h3, h4, h6 74 (by omega) (fun e => by have := ho 74 (by omega); omega)⟩
theorem c6_cI {a b : Nat} (h : c6 ow ow' g g' a b) (r : cI ow g lc ln M Bs D Ts K most more re rd un Gs) : cI ow' g' lc ln M Bs D Ts K most more re rd un Gs := by
  obtain ⟨h0, h1, h2, h3, h4, h5, h6⟩ := h
  obtain ⟨r1, ⟨p, f, l1, l2, l3⟩, ⟨kk, nv, bv, st, q1, q2⟩, hJ, hNn, mk, hG, hO⟩ := r
  have lo : ∀ q, q < 46 ∨ (52 ≤ q ∧ q < 75) → g'.2.2 q = g.2.2 q := fun q hx => h6 q (by omega) (fun e => by have := hO.1 q (by omega); omega)
  have ok' : ∀ q, ow' q ≠ 1 → (46 ≤ q ∧ q < 52) ∨ 75 ≤ q := fun q hq => by
    by_cases e : q < g.1
    · rw [h5 q e] at hq; exact hO.1 q hq
    · omega
  have hO1 := cO_ow h5 ok' r1 hO
  exact ⟨by omega, ⟨p, f, (lo 3 (by omega)).trans l1, (lo 4 (by omega)).trans l2, l3⟩, ⟨kk, nv, bv, st, (lo 5 (by omega)).trans q1, (lo 6 (by omega)).trans q2⟩, cJ_ext (fun q a b => lo q (by omega)) hJ, cN_ext (fun q a b => lo q (by omega)) hNn, mk, (lo 2 (by omega)).trans hG, cO_ext6 h1 (fun q _ hb hc => h6 q hc (by rw [← h5 q hc]; exact hb)) r1 hO1⟩
theorem c6_lab {a b k : Nat} (h : c6 ow ow' g g' a b) : ∀ q, own ow k q → q < g.1 → own ow' k q := fun q hq hl => by show ow' q = k; rw [h.2.2.2.2.2.1 q hl]; exact hq
theorem c6_cell {a b k : Nat} (h : c6 ow ow' g g' a b) (hk : k ≠ 6) : ∀ q, own ow' k q → q < g.1 → g'.2.2 q = g.2.2 q := fun q hq hl => h.2.2.2.2.2.2 q hl (fun e => by have hq : ow' q = k := hq; rw [h.2.2.2.2.2.1 q hl] at hq; omega)
theorem c6_tk {a b t : Nat} {T : w_T} (h : c6 ow ow' g g' a b) (r : tk_rep (own ow 0) g t T) : tk_rep (own ow' 0) g' t T := tk_ext h.2.1 (c6_cell h (by decide)) (tk_mono (c6_lab h) r)
theorem c6_lk {a b t : Nat} {T : w_K} (h : c6 ow ow' g g' a b) (r : lk_rep (own ow 0) g t T) : lk_rep (own ow' 0) g' t T := lk_ext h.2.1 (c6_cell h (by decide)) (lk_mono (c6_lab h) r)
/-- the young token -/
def yT (ow : Nat → Nat) (g : ag_H) (t : Nat) (T : w_T) : Prop := ow t = 6 ∧ 2 ≤ t ∧ t < g.1 ∧ ∃ l, g.2.2 t = .inr (8, [.ref l, .int (j_b T.2.1), .int T.2.2.1, .int T.2.2.2]) ∧ al_rep (own ow 6) (lk_rep (own ow 0) g) g l T.1
theorem c6_nw (h : 75 ≤ g.1) (n : Nat) (c : ag_C) (k : Nat) : c6 ow (ow_nx ow g.1 k) g (ag_nw g n c) 1 n := ⟨h, show g.1 ≤ g.1 + 1 by omega, show g.1 + 1 ≤ g.1 + 1 by omega, show g.2.1 ≤ g.2.1 + n by omega, show g.2.1 + n ≤ g.2.1 + n by omega, fun q hq => ow_lt hq, fun q hq _ => if_neg (by omega)⟩
/-- a new cell leaves the young token as it is -/
theorem yT_nw {t : Nat} {T : w_T} (n : Nat) (c : ag_C) (k : Nat) (h : yT ow g t T) : yT (ow_nx ow g.1 k) (ag_nw g n c) t T := by
  obtain ⟨h1, h2, h3, l, h4, h5⟩ := h
  have hc : ∀ q, q < g.1 → (ag_nw g n c).2.2 q = g.2.2 q := fun q hq => if_neg (by omega)
  have hn : g.1 ≤ (ag_nw g n c).1 := show g.1 ≤ g.1 + 1 by omega
  have m : ∀ j q, own ow j q → q < g.1 → own (ow_nx ow g.1 k) j q := fun j q hq hl => by show ow_nx ow g.1 k q = j; rw [ow_lt hl]; exact hq
  exact ⟨(ow_lt h3).trans h1, h2, show t < g.1 + 1 by omega, l, (hc t h3).trans h4, al_rep_mono (fun _ h _ => h) (fun _ _ _ h => lk_ext hn (fun q _ hq => hc q hq) h) (al_rep_ext hn (fun q _ hq => hc q hq) (al_rep_mono (m 6) (fun _ _ _ h => lk_mono (m 0) h) h5))⟩
/-- its own cell is written -/
theorem yT_up {t : Nat} {T T' : w_T} (hg : 75 ≤ g.1) (h : yT ow g t T) {l : Nat} (hl : g.2.2 t = .inr (8, [.ref l, .int (j_b T.2.1), .int T.2.2.1, .int T.2.2.2])) (h1 : T'.1 = T.1) : yT ow (ag_up g t (.inr (8, [.ref l, .int (j_b T'.2.1), .int T'.2.2.1, .int T'.2.2.2]))) t T' ∧ c6 ow ow g (ag_up g t (.inr (8, [.ref l, .int (j_b T'.2.1), .int T'.2.2.1, .int T'.2.2.2]))) 0 0 := by
  obtain ⟨a1, a2, a3, l', a4, a5⟩ := h
  rw [hl] at a4
  cases a4
  refine ⟨⟨a1, a2, a3, l, if_pos rfl, ?_⟩, ⟨hg, Nat.le_refl _, Nat.le_refl _, Nat.le_refl _, Nat.le_refl _, fun _ _ => rfl, fun q _ hq => if_neg (fun (e : q = t) => hq (e ▸ a1))⟩⟩
  rw [h1]
  obtain ⟨b1, b2, b3, md, b4⟩ := a5
  have hlt : l ≠ t := by
    rintro rfl
    rcases b4 with ⟨_, b4⟩ | ⟨_, _, _, _, _, _, b4, _⟩ <;> (rw [hl] at b4; cases b4)
  have q0 : ∀ q, own ow 0 q → q < g.1 → (ag_up g t (.inr (8, [.ref l, .int (j_b T'.2.1), .int T'.2.2.1, .int T'.2.2.2]))).2.2 q = g.2.2 q := fun q hq _ => if_neg (fun (e : q = t) => by have hq : ow q = 0 := hq; rw [e, a1] at hq; cases hq)
  refine ⟨b1, b2, b3, md, ?_⟩
  rcases b4 with ⟨b4, b5⟩ | ⟨e, n0, v, c1, c2, c3, c4, c5, c6, c7, c8, c9⟩
  · exact Or.inl ⟨b4, (if_neg hlt).trans b5⟩
  · have het : e ≠ t := by
      rintro rfl
      rw [hl] at c5
      cases c5
    refine Or.inr ⟨e, n0, v, c1, c2, c3, (if_neg hlt).trans c4, (if_neg het).trans c5, c6, c7, c8, fun i x hx => ?_⟩
    obtain ⟨b', hb1, hb2⟩ := c9 i x hx
    exact ⟨b', hb1, lk_ext (g := g) (g' := ag_up g t (.inr (8, [.ref l, .int (j_b T'.2.1), .int T'.2.2.1, .int T'.2.2.2]))) (Nat.le_refl _) q0 hb2⟩
/-- its list is changed -/
theorem yT_ls {t l : Nat} {T : w_T} {xs : List w_K} (hg : 75 ≤ g.1) (h : yT ow g t T) (hl : g.2.2 t = .inr (8, [.ref l, .int (j_b T.2.1), .int T.2.2.1, .int T.2.2.2])) {k a b : Nat} (hk : k = 6 ∨ g'.1 = g.1) (hn : g.1 ≤ g'.1 ∧ g'.1 ≤ g.1 + a ∧ g.2.1 ≤ g'.2.1 ∧ g'.2.1 ≤ g.2.1 + b) (hq : ∀ q, ow_nx ow g.1 6 q ≠ 6 → g'.2.2 q = g.2.2 q) (ht : g'.2.2 t = g.2.2 t) (r : al_rep (own (ow_nx ow g.1 6) 6) (lk_rep (own (ow_nx ow g.1 6) 0) g) g' l xs) : yT (ow_nx ow g.1 6) g' t (xs, T.2) ∧ c6 ow (ow_nx ow g.1 6) g g' a b := by
  obtain ⟨a1, a2, a3, l', a4, a5⟩ := h
  refine ⟨⟨(ow_lt a3).trans a1, a2, by omega, l, ht.trans hl, ?_⟩, ⟨hg, hn.1, hn.2.1, hn.2.2.1, hn.2.2.2, fun q hq => ow_lt hq, fun q hl hq' => hq q (by rw [ow_lt hl]; exact hq')⟩⟩
  exact al_rep_mono (fun _ h _ => h) (fun _ _ _ h => lk_ext hn.1 (fun q hq0 _ => hq q (fun e => by have hq0 : ow_nx ow g.1 6 q = 0 := hq0; omega)) h) r
end YNG
