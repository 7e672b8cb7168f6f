/-! ### clause, desk: the class's side -/
section CFR
variable {ow : Nat → Nat} {g g' : ag_H} {lc : Nat → Nat} {ln : Nat} {M : List g_Cl} {Bs : List (List g_Cl)} {D : List g_Cl} {Ts : List w_T} {K most more : Nat} {re : Int32} {rd : Nat} {un : Int32} {Gs : List j_R}
theorem cJ_ext (hq : ∀ q, 7 ≤ q → q ≤ 45 → g'.2.2 q = g.2.2 q) (h : cJ g re rd un Gs) : cJ g' re rd un Gs := by
  obtain ⟨kn, rf, tr, he, mi, fa, ov, room, rv, rw, va, sk, ra, ⟨h7, h8, h9, h44, h45, hr⟩, h2, h3⟩ := h
  exact ⟨kn, rf, tr, he, mi, fa, ov, room, rv, rw, va, sk, ra, ⟨(hq 7 (by omega) (by omega)).trans h7, (hq 8 (by omega) (by omega)).trans h8, (hq 9 (by omega) (by omega)).trans h9, (hq 44 (by omega) (by omega)).trans h44, (hq 45 (by omega) (by omega)).trans h45, fun q h => (hq q (by omega) (by omega)).trans (hr q h)⟩, h2, h3⟩
theorem cN_ext (hq : ∀ q, 7 ≤ q → q ≤ 45 → g'.2.2 q = g.2.2 q) (h : cN g) : cN g' := by
  obtain ⟨h1, ⟨md, h2⟩, pv, h3⟩ := h
  exact ⟨(hq 41 (by omega) (by omega)).trans h1, ⟨md, (hq 42 (by omega) (by omega)).trans h2⟩, pv, (hq 43 (by omega) (by omega)).trans h3⟩
def ow_nx (ow : Nat → Nat) (n k : Nat) : Nat → Nat := fun q => if q < n then ow q else k
theorem ow_lt {n k q : Nat} (h : q < n) : ow_nx ow n k q = ow q := if_pos h
theorem ow_ge {n k q : Nat} (h : ¬ q < n) : ow_nx ow n k q = k := if_neg h
theorem ow_ok {n k : Nat} (hn : 75 ≤ n) (h : ∀ q, ow q ≠ 1 → (46 ≤ q ∧ q < 52) ∨ 75 ≤ q) : ∀ q, ow_nx ow n k q ≠ 1 → (46 ≤ q ∧ q < 52) ∨ 75 ≤ q := by
  intro q hq
  by_cases e : q < n
  · rw [ow_lt e] at hq; exact h q hq
  · omega
/-- the same but for the reference's place, the place of the answer, and new cells -/
theorem cI_same (hn : g.1 ≤ g'.1) (hq : ∀ q, (2 ≤ q ∧ q < 52) ∨ 75 ≤ q → q < g.1 → g'.2.2 q = g.2.2 q) (k : Nat) (h : cI ow g lc ln M Bs D Ts K most more re rd un Gs) : cI (ow_nx ow g.1 k) g' lc ln M Bs D Ts K most more re rd un Gs := by
  obtain ⟨h1, ⟨p, f, l1, l2, l3⟩, ⟨kk, nv, bv, st, r1, r2⟩, hJ, hN, mk, hG, hO⟩ := h
  have hO1 : cO (ow_nx ow g.1 k) g mk M Bs D Ts := cO_ow (fun q hq => ow_lt hq) (ow_ok h1 hO.1) h1 hO
  refine ⟨by omega, ⟨p, f, (hq 3 (by omega) (by omega)).trans l1, (hq 4 (by omega) (by omega)).trans l2, l3⟩, ⟨kk, nv, bv, st, (hq 5 (by omega) (by omega)).trans r1, (hq 6 (by omega) (by omega)).trans r2⟩, cJ_ext (fun q a b => hq q (by omega) (by omega)) hJ, cN_ext (fun q a b => hq q (by omega) (by omega)) hN, mk, (hq 2 (by omega) (by omega)).trans hG, cO_ext hn (fun q h3 h4 => ?_) h1 hO1⟩
  rcases hO1.1 q h3 with h5 | h5
  · exact hq q (by omega) h4
  · exact hq q (by omega) h4
theorem cI_nw (n : Nat) (c : ag_C) (k : Nat) (h : cI ow g lc ln M Bs D Ts K most more re rd un Gs) : cI (ow_nx ow g.1 k) (ag_nw g n c) lc ln M Bs D Ts K most more re rd un Gs :=
  cI_same (show g.1 ≤ g.1 + 1 by omega) (fun q _ hq => if_neg (by omega)) k h
theorem rs_self {n p k : Nat} {nv bv : Int32} {st : Nat → Int32} (h3 : g.2.2 3 = .inr (1, [.ref 4, .int (Int32.ofNat n), .int (Int32.ofNat p)])) (h5 : g.2.2 5 = .inr (2, [.ref 6, .int (Int32.ofNat k), .int nv, .int bv])) (h6 : g.2.2 6 = .inl (0, 40, .inl st)) : rs g n p k nv bv st = g := by
  refine Prod.ext rfl (Prod.ext rfl (funext fun q => ?_))
  show (if q = 3 then _ else if q = 5 then _ else if q = 6 then _ else g.2.2 q) = g.2.2 q
  by_cases e3 : q = 3
  · rw [if_pos e3, e3, h3]
  rw [if_neg e3]
  by_cases e5 : q = 5
  · rw [if_pos e5, e5, h5]
  rw [if_neg e5]
  by_cases e6 : q = 6
  · rw [if_pos e6, e6, h6]
  rw [if_neg e6]
/-- reading the line -/
theorem c_rdI {N : Nat} {C : Nat × Nat} (h : cI ow g lc ln M Bs D Ts K most more re rd un Gs) (hln : ln ≤ 40 ∧ ∀ i, i < ln → 32 ≤ lc i ∧ lc i ≤ 126) (hN : 60 ≤ N) (hC1 : g.1 + 10 ≤ C.1) (hC2 : g.2.1 + 99 ≤ C.2) :
    ∃ g1 r, fn_Rd_read N C 5 (some 3) g = some (r, g1) ∧ (g.1 ≤ g1.1 ∧ g1.1 ≤ g.1 + 10 ∧ g.2.1 ≤ g1.2.1 ∧ g1.2.1 ≤ g.2.1 + 99 ∧ g1.2.2 74 = g.2.2 74) ∧ cI (ow_nx ow g.1 0) g1 lc ln M Bs D Ts K most more re rd un Gs ∧ match g_rd lc ln with
      | none => r = none
      | some x => ∃ a, r = some a ∧ cl_rep (own (ow_nx ow g.1 0) 0) g1 a x := by
  have h0 := h
  obtain ⟨h1, ⟨p, f, l1, l2, l3⟩, ⟨kk, nv, bv, st, r1, r2⟩, hJ, hNn, mk, hG, hO⟩ := h
  obtain ⟨ps, rfl⟩ := i32_nat p
  obtain ⟨ks, rfl⟩ := i32_nat kk
  have hs := rs_self l1 r1 r2
  have ho : rs_ok lc f ln g := ⟨h1, hln.1, l2, fun i hi => ⟨l3 i hi, hln.2 i hi⟩⟩
  have kr := c_read (N := N) (C := C) (p := ps) (k := ks) (nv := nv) (bv := bv) (st := st) ho (by omega) hC1 hC2
  rw [hs] at kr
  have main : ∀ (h' : ag_H) (p' k' : Nat) (nv' bv' : Int32) (st' : Nat → Int32), fr_L g.1 g h' 10 99 → (g.1 ≤ (rs h' ln p' k' nv' bv' st').1 ∧ (rs h' ln p' k' nv' bv' st').1 ≤ g.1 + 10 ∧ g.2.1 ≤ (rs h' ln p' k' nv' bv' st').2.1 ∧ (rs h' ln p' k' nv' bv' st').2.1 ≤ g.2.1 + 99 ∧ (rs h' ln p' k' nv' bv' st').2.2 74 = g.2.2 74) ∧ cI (ow_nx ow g.1 0) (rs h' ln p' k' nv' bv' st') lc ln M Bs D Ts K most more re rd un Gs := by
    intro h' p' k' nv' bv' st' ⟨f1, f2, f3, f4, f5⟩
    have cell : ∀ q, q ≠ 3 → q ≠ 5 → q ≠ 6 → q < g.1 → (rs h' ln p' k' nv' bv' st').2.2 q = g.2.2 q := fun q a b c d => (rs_big a b c).trans (f5 q d a b c)
    refine ⟨⟨f1, f2, f3, f4, cell 74 (by omega) (by omega) (by omega) (by omega)⟩, ?_⟩
    have hO1 : cO (ow_nx ow g.1 0) g mk M Bs D Ts := cO_ow (fun q hq => ow_lt hq) (ow_ok h1 hO.1) h1 hO
    refine ⟨Nat.le_trans h1 f1, ⟨Int32.ofNat p', f, rfl, (cell 4 (by omega) (by omega) (by omega) (by omega)).trans l2, l3⟩, ⟨_, nv', bv', st', rfl, rfl⟩, cJ_ext (fun q a b => cell q (by omega) (by omega) (by omega) (by omega)) hJ, cN_ext (fun q a b => cell q (by omega) (by omega) (by omega) (by omega)) hNn, mk, (cell 2 (by omega) (by omega) (by omega) (by omega)).trans hG, cO_ext f1 (fun q h3 h4 => ?_) h1 hO1⟩
    have := hO1.1 q h3
    exact cell q (by omega) (by omega) (by omega) h4
  unfold rd_sp at kr
  cases e : g_rd lc ln with
  | none =>
    rw [e] at kr
    obtain ⟨h', p', k', nv', bv', st', k1, k2⟩ := kr
    obtain ⟨m1, m2⟩ := main h' p' k' nv' bv' st' k2
    exact ⟨_, none, k1, m1, m2, rfl⟩
  | some x =>
    rw [e] at kr
    obtain ⟨h', a, p', k', nv', bv', st', k1, k2, k3⟩ := kr
    obtain ⟨m1, m2⟩ := main h' p' k' nv' bv' st' k3
    refine ⟨_, some a, k1, m1, m2, a, rfl, ?_⟩
    refine cl_ext (g := h') (g' := rs h' ln p' k' nv' bv' st') (P := own (ow_nx ow g.1 0) 0) (Nat.le_refl _) (fun q hq hl => ?_) (cl_mono (P := (g.1 ≤ ·)) (fun q hq _ => ow_ge (Nat.not_lt.mpr hq)) k2)
    have : ow_nx ow g.1 0 q = 0 := hq
    have hO1 := (ow_ok h1 hO.1) q (by rw [this]; decide)
    exact rs_big (by omega) (by omega) (by omega)
end CFR
section CCL
variable {N : Nat} {C : Nat × Nat} {ow : Nat → Nat} {g : ag_H} {lc : Nat → Nat} {ln : Nat} {M : List g_Cl} {Bs : List (List g_Cl)} {D : List g_Cl} {Ts : List w_T} {K most more : Nat} {re : Int32} {rd : Nat} {un : Int32} {Gs : List j_R}
theorem cl_kind {P : Nat → Prop} {a : Nat} {x : g_Cl} (r : cl_rep P g a x) : ag_gi g (some a) 7 0 = some (Int32.ofNat x.1) := by
  obtain ⟨h1, h2, h3, r, bl, sa, sv, e1, _⟩ := r
  exact pu_gi (k := 0) (pu_at h2 h3 e1) rfl
/-- the clause is put behind the others, and the line is empty -/
theorem c_moveM (h : cI ow g lc ln M Bs D Ts K most more re rd un Gs) {mk : Nat} (hG : cG g mk K most more) (hM : M.length < 9) {a : Nat} {x : g_Cl} (hx : cl_rep (own ow 0) g a x) (hC1 : g.1 + 1 ≤ C.1) (hC2 : g.2.1 + 10 ≤ C.2) :
    ∃ g', fn_GC_moveLine N C 2 (some a) (some mk) g = some (Int32.ofNat x.1, g') ∧ (g.1 ≤ g'.1 ∧ g'.1 ≤ g.1 + 1 ∧ g.2.1 ≤ g'.2.1 ∧ g'.2.1 ≤ g.2.1 + 10 ∧ g'.2.2 74 = g.2.2 74) ∧ cI (ow_nx ow g.1 5) g' lc 0 (M ++ [x]) Bs D Ts K most more re rd un Gs := by
  obtain ⟨h1, ⟨p, f, l1, l2, l3⟩, ⟨kk, nv, bv, st, r1, r2⟩, hJ, hNn, mk', hG', hO⟩ := h
  have hmk : mk' = mk := by
    unfold cG at hG hG'
    rw [hG] at hG'
    cases hG'
    rfl
  subst hmk
  have hO1 : cO (ow_nx ow g.1 5) g mk' M Bs D Ts := cO_ow (fun q hq => ow_lt hq) (ow_ok h1 hO.1) h1 hO
  have hx1 : cl_rep (own (ow_nx ow g.1 5) 0) g a x := cl_mono (fun q hq hl => by show ow_nx ow g.1 5 q = 0; rw [ow_lt hl]; exact hq) hx
  obtain ⟨o1, ⟨o2, o3⟩, o4, o5, o6, o7, o8, o9, lm, o10, o11⟩ := hO1
  obtain ⟨c7, fsx, hax, hci⟩ := cl_cls hx1
  obtain ⟨g', k1, k2, k3, k4, k5, k6, k7, k8⟩ := al_push (N := N) (C := C) o11 (by omega) hx1 hax hci hC1 hC2 (ow_ge (Nat.lt_irrefl _))
  have cell : ∀ q, ow_nx ow g.1 5 q ≠ 5 → g'.2.2 q = g.2.2 q := fun q hq => k7 q hq
  have lo : ∀ q, q < 46 ∨ (52 ≤ q ∧ q < 75) → g'.2.2 q = g.2.2 q := fun q hq => cell q (fun e => by have := o1 q (by rw [e]; decide); omega)
  have e3 : ag_at g' (.ref 3) = some (.inr (1, [.ref 4, .int (Int32.ofNat ln), .int p])) := pu_at (by omega) (by omega) ((lo 3 (by omega)).trans l1)
  have e2 : ag_at g' (.ref 2) = some (.inr (0, [.ref 3, .ref 5, .ref 7, .ref 46, .ref 48, .ref 49, .ref mk', .int (Int32.ofNat K), .int (Int32.ofNat most), .int (Int32.ofNat more)])) := pu_at (by omega) (by omega) ((lo 2 (by omega)).trans hG)
  have q0 : ∀ q, own (ow_nx ow g.1 5) 0 q → q < g.1 → g'.2.2 q = g.2.2 q := fun q hq _ => cell q (fun e => by have hq : ow_nx ow g.1 5 q = 0 := hq; omega)
  have up : ∀ q, q ≠ 3 → (ag_up g' 3 (.inr (1, [.ref 4, .int (Int32.ofInt 0), .int p]))).2.2 q = g'.2.2 q := fun q hq => if_neg hq
  have hx2 : cl_rep (own (ow_nx ow g.1 5) 0) (ag_up g' 3 (.inr (1, [.ref 4, .int (Int32.ofInt 0), .int p]))) a x := cl_ext (g := g') (g' := ag_up g' 3 (.inr (1, [.ref 4, .int (Int32.ofInt 0), .int p]))) (Nat.le_refl _) (fun q hq _ => up q (fun e => by have hq : ow_nx ow g.1 5 q = 0 := hq; have := o1 q (by rw [hq]; decide); omega)) (cl_ext k3 q0 hx1)
  refine ⟨ag_up g' 3 (.inr (1, [.ref 4, .int (Int32.ofInt 0), .int p])), ?_, ⟨k3, k4, k5, k6, (up 74 (by decide)).trans (lo 74 (by omega))⟩, ?_⟩
  · unfold fn_GC_moveLine fn_GC_moveLine_0
    rw [pu_gr (k := 0) (pu_at o8 o9 o10) rfl, Option.bind_some, al_rep_rc o11, Option.bind_some, k1, Option.bind_some]
    dsimp only
    rw [pu_gr (k := 0) e2 rfl, Option.bind_some]
    show ((ag_pf g' (ag_rf (some 3)) 1 1 .int (.int (Int32.ofInt 0))).bind _) = _
    rw [pu_pf e3 (Nat.le_of_ble_eq_true rfl) rfl rfl, Option.bind_some]
    show ((ag_gi (ag_up g' 3 (.inr (1, [.ref 4, .int (Int32.ofInt 0), .int p]))) (some a) 7 0).bind _) = _
    rw [cl_kind hx2, Option.bind_some]
    rfl
  · refine ⟨Nat.le_trans h1 k3, ⟨p, f, rfl, (up 4 (by omega)).trans ((lo 4 (by omega)).trans l2), fun i hi => absurd hi (by omega)⟩, ⟨kk, nv, bv, st, (up 5 (by omega)).trans ((lo 5 (by omega)).trans r1), (up 6 (by omega)).trans ((lo 6 (by omega)).trans r2)⟩, cJ_ext (fun q a b => (up q (by omega)).trans (lo q (by omega))) hJ, cN_ext (fun q a b => (up q (by omega)).trans (lo q (by omega))) hNn, mk', (up 2 (by omega)).trans ((lo 2 (by omega)).trans hG), ?_⟩
    refine cO_ext (g := g') (Nat.le_refl _) (fun q hq _ => up q (fun e => by have := o1 q hq; omega)) (Nat.le_trans h1 k3) ?_
    have q2 : ∀ q, own (ow_nx ow g.1 5) 2 q → q < g.1 → g'.2.2 q = g.2.2 q := fun q hq _ => cell q (fun e => by have hq : ow_nx ow g.1 5 q = 2 := hq; omega)
    have q3 : ∀ q, own (ow_nx ow g.1 5) 3 q → q < g.1 → g'.2.2 q = g.2.2 q := fun q hq _ => cell q (fun e => by have hq : ow_nx ow g.1 5 q = 3 := hq; omega)
    have q4 : ∀ q, own (ow_nx ow g.1 5) 4 q → q < g.1 → g'.2.2 q = g.2.2 q := fun q hq _ => cell q (fun e => by have hq : ow_nx ow g.1 5 q = 4 := hq; omega)
    exact ⟨o1, ⟨o2, (q0 46 o2 (by omega)).trans o3⟩, al_rep_mono (fun _ h _ => h) (fun _ _ _ h => cl_ext k3 q0 h) (al_rep_ext k3 q2 o4), al_rep_mono (fun _ h _ => h) (fun _ _ _ h => bl_ext k3 q0 h) (al_rep_ext k3 q3 o5), al_rep_mono (fun _ h _ => h) (fun _ _ _ h => tk_ext k3 q0 h) (al_rep_ext k3 q4 o6), o7, o8, Nat.lt_of_lt_of_le o9 k3, lm, (q0 mk' o7 o9).trans o10, al_rep_mono (fun _ h _ => h) (fun _ _ _ h => cl_ext k3 q0 h) k2⟩
end CCL
