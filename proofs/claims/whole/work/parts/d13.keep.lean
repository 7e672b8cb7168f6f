/-! ### A token is kept; a block is closed -/
section KEP
variable {N : Nat} {C : Nat × Nat} {ow ow' : Nat → Nat} {g g' : ag_H} {lc : Nat → Nat} {ln : Nat} {M : List g_Cl} {Bs : List (List g_Cl)} {D : List g_Cl} {Ts : List w_T} {K most more : Nat} {re : Int32} {rd : Nat} {un : Int32} {Gs : List j_R} {mk : Nat} {t : Nat} {T : w_T}
theorem yT_ext (hn : g.1 ≤ g'.1) (hq : ∀ q, q < g.1 → ow q = 6 ∨ ow q = 0 → ow' q = ow q ∧ g'.2.2 q = g.2.2 q) (h : yT ow g t T) : yT ow' g' t T := by
  obtain ⟨h1, h2, h3, l, h4, h5⟩ := h
  have m6 : ∀ q, own ow 6 q → q < g.1 → own ow' 6 q := fun q a b => ((hq q b (Or.inl a)).1).trans a
  have m0 : ∀ q, own ow 0 q → q < g.1 → own ow' 0 q := fun q a b => ((hq q b (Or.inr a)).1).trans a
  refine ⟨((hq t h3 (Or.inl h1)).1).trans h1, h2, by omega, l, (hq t h3 (Or.inl h1)).2.trans h4, ?_⟩
  obtain ⟨b1, b2, b3, md, b4⟩ := h5
  refine ⟨m6 l b1 b3, b2, by omega, md, ?_⟩
  rcases b4 with ⟨b4, b5⟩ | ⟨e, n0, v, c1, c2, c3, c4, c5, c6, c7, c8, c9⟩
  · exact Or.inl ⟨b4, (hq l b3 (Or.inl b1)).2.trans b5⟩
  · refine Or.inr ⟨e, n0, v, m6 e c1 c3, c2, by omega, (hq l b3 (Or.inl b1)).2.trans c4, (hq e c3 (Or.inl c1)).2.trans c5, c6, c7, c8, fun i x hx => ?_⟩
    obtain ⟨b', hb1, hb2⟩ := c9 i x hx
    exact ⟨b', hb1, m0 _ hb2.1 hb2.2.2.1, hb2.2.1, Nat.lt_of_lt_of_le hb2.2.2.1 hn, (hq _ hb2.2.2.1 (Or.inr hb2.1)).2.trans hb2.2.2.2⟩
theorem cO_lab {ow' : Nat → Nat} (hw : ∀ q, q < g.1 → ow q ≠ 6 → ow' q = ow q) (h1 : ∀ q, ow' q ≠ 1 → (46 ≤ q ∧ q < 52) ∨ 75 ≤ q) (hg : 75 ≤ g.1) (r : cO ow g mk M Bs D Ts) : cO ow' g mk M Bs D Ts := by
  obtain ⟨_, ⟨h2, h3⟩, h4, h5, h6, h7, h8, h9, lm, h10, h11⟩ := r
  have m : ∀ k, k ≠ 6 → ∀ q, own ow k q → q < g.1 → own ow' k q := fun k hk q h hq => by show ow' q = k; rw [hw q hq (fun e => by have h : ow q = k := h; omega)]; exact h
  have m0 := m 0 (by decide)
  exact ⟨h1, ⟨m0 46 h2 (by omega), h3⟩, al_rep_mono (m 2 (by decide)) (fun _ _ _ h => cl_mono m0 h) h4, al_rep_mono (m 3 (by decide)) (fun _ _ _ h => bl_mono m0 h) h5, al_rep_mono (m 4 (by decide)) (fun _ _ _ h => tk_mono m0 h) h6, m0 mk h7 h9, h8, h9, lm, h10, al_rep_mono (m 5 (by decide)) (fun _ _ _ h => cl_mono m0 h) h11⟩
/-- a token is kept: it is never changed any more -/
theorem c_keep (h : cI ow g lc ln M Bs D Ts K most more re rd un Gs) (hy : yT ow g t T) (hT : Ts.length ≤ 16) (hC1 : g.1 + 1 ≤ C.1) (hC2 : g.2.1 + 45 ≤ C.2) : ∃ g' ow', fn_GC_keep N C 2 (some t) g = some (Int32.ofNat Ts.length, g') ∧ c_fr g g' 1 45 ∧ cI ow' g' lc ln M Bs D (Ts ++ [T]) K most more re rd un Gs := by
  obtain ⟨h1, hL, hR, hJ, hNn, mk, hG, hO⟩ := h
  have hw : ∀ q, q < g.1 → ow q ≠ 6 → ow_nx (fun q => if ow q = 6 then 0 else ow q) g.1 4 q = ow q := fun q a b => (ow_lt a).trans (if_neg b)
  have hok : ∀ q, ow_nx (fun q => if ow q = 6 then 0 else ow q) g.1 4 q ≠ 1 → (46 ≤ q ∧ q < 52) ∨ 75 ≤ q := fun q hq => by
    by_cases e : q < g.1
    · rw [ow_lt e] at hq
      by_cases e6 : ow q = 6
      · exact hO.1 q (by omega)
      · rw [if_neg e6] at hq
        exact hO.1 q hq
    · omega
  have hO1 := cO_lab hw hok h1 hO
  obtain ⟨y1, y2, y3, l, y4, y5⟩ := hy
  have m6 : ∀ q, own ow 6 q → q < g.1 → own (ow_nx (fun q => if ow q = 6 then 0 else ow q) g.1 4) 0 q := fun q a b => (ow_lt b).trans (if_pos a)
  have m0 : ∀ q, own ow 0 q → q < g.1 → own (ow_nx (fun q => if ow q = 6 then 0 else ow q) g.1 4) 0 q := fun q a b => (hw q b (fun e => by have a : ow q = 0 := a; omega)).trans a
  have ht : tk_rep (own (ow_nx (fun q => if ow q = 6 then 0 else ow q) g.1 4) 0) g t T := ⟨m6 t y1 y3, y2, y3, l, y4, al_rep_mono m6 (fun _ _ _ h => lk_mono m0 h) y5⟩
  have hI1 : cI (ow_nx (fun q => if ow q = 6 then 0 else ow q) g.1 4) g lc ln M Bs D Ts K most more re rd un Gs := ⟨h1, hL, hR, hJ, hNn, mk, hG, hO1⟩
  obtain ⟨o1, ⟨o2, o3⟩, o4, o5, o6, o7⟩ := hO1
  obtain ⟨ci, fs, hb, hc⟩ := tk_cls ht
  obtain ⟨g', k1, k2, k3, k4, k5, k6, k7, k8⟩ := al_pushG (N := N) (C := C) o6 (by omega) ht (fun b y hb => tk_cls hb) hb hc hC1 hC2 (ow_ge (Nat.lt_irrefl _))
  have hq : ∀ q, ow_nx (fun q => if ow q = 6 then 0 else ow q) g.1 4 q ≠ 4 → g'.2.2 q = g.2.2 q := fun q a => k7 q a
  have lo : ∀ q, q < 46 ∨ (52 ≤ q ∧ q < 75) → g'.2.2 q = g.2.2 q := fun q hx => hq q (fun e => by have := o1 q (by omega); omega)
  have e2 : ag_at g (.ref 2) = _ := pu_at (by omega) (by omega) hG
  have e2' : ag_at g' (.ref 2) = _ := pu_at (by omega) (by omega) ((lo 2 (by omega)).trans hG)
  refine ⟨g', _, ?_, ⟨k3, k4, k5, k6, lo 74 (by omega)⟩, cI_list (k := 4) (Or.inr (Or.inr (Or.inl rfl))) k3 hq hI1 ⟨fun q => absurd q (by decide), fun _ => rfl⟩ ⟨fun q => absurd q (by decide), fun _ => rfl⟩ ⟨fun _ => k2, fun q => absurd rfl q⟩ (by decide)⟩
  unfold fn_GC_keep fn_GC_keep_0
  rw [pu_gr (k := 5) e2 rfl, Option.bind_some, al_rep_rc o6, Option.bind_some, k1, Option.bind_some]
  dsimp only
  rw [pu_gr (k := 5) e2' rfl, Option.bind_some, al_rep_rc k2, Option.bind_some, al_rep_size k2, Option.bind_some, List.length_append]
  dsimp only
  rw [n_1, n_sub (by simp)]
  rfl
/-- a new key -/
theorem c_newKey (h : cI ow g lc ln M Bs D Ts K most more re rd un Gs) : ∃ g', fn_GC_newKey N C 2 g = some (Int32.ofNat (K + 1), g') ∧ c_fr g g' 0 0 ∧ cI ow g' lc ln M Bs D Ts (K + 1) most more re rd un Gs ∧ ∀ q, q ≠ 2 → g'.2.2 q = g.2.2 q := by
  obtain ⟨h1, ⟨p, f, l1, l2, l3⟩, ⟨kk, nv, bv, st, q1, q2⟩, hJ, hNn, mk, hG, hO⟩ := h
  have e2 : ag_at g (.ref 2) = _ := pu_at (by omega) (by omega) hG
  have up : ∀ q, q ≠ 2 → (ag_up g 2 (.inr (0, [.ref 3, .ref 5, .ref 7, .ref 46, .ref 48, .ref 49, .ref mk, .int (Int32.ofNat (K + 1)), .int (Int32.ofNat most), .int (Int32.ofNat more)]))).2.2 q = g.2.2 q := fun q hq => if_neg hq
  refine ⟨ag_up g 2 (.inr (0, [.ref 3, .ref 5, .ref 7, .ref 46, .ref 48, .ref 49, .ref mk, .int (Int32.ofNat (K + 1)), .int (Int32.ofNat most), .int (Int32.ofNat more)])), ?_, ⟨Nat.le_refl _, Nat.le_refl _, Nat.le_refl _, Nat.le_refl _, up 74 (by decide)⟩, ⟨h1, ⟨p, f, (up 3 (by decide)).trans l1, (up 4 (by decide)).trans l2, l3⟩, ⟨kk, nv, bv, st, (up 5 (by decide)).trans q1, (up 6 (by decide)).trans q2⟩, cJ_ext (fun q a b => up q (by omega)) hJ, cN_ext (fun q a b => up q (by omega)) hNn, mk, rfl, cO_ext (g := g) (Nat.le_refl _) (fun q hq _ => up q (fun e => by have := hO.1 q hq; omega)) h1 hO⟩, up⟩
  unfold fn_GC_newKey fn_GC_newKey_0
  rw [pu_gi (k := 7) e2 rfl, Option.bind_some, pu_pf e2 (Nat.le_of_ble_eq_true rfl) rfl rfl, Option.bind_some, n_1, n_add]
  have e2' : ag_at (ag_up g 2 (.inr (0, [Value.ref 3, .ref 5, .ref 7, .ref 46, .ref 48, .ref 49, .ref mk, .int (Int32.ofNat K), .int (Int32.ofNat most), .int (Int32.ofNat more)].set 7 (.int (Int32.ofNat (K + 1)))))) (.ref 2) = some (.inr (0, [.ref 3, .ref 5, .ref 7, .ref 46, .ref 48, .ref 49, .ref mk, .int (Int32.ofNat (K + 1)), .int (Int32.ofNat most), .int (Int32.ofNat more)])) := pu_up_eq _ e2
  rw [pu_gi (k := 7) e2' rfl, Option.bind_some]
  rfl
end KEP
