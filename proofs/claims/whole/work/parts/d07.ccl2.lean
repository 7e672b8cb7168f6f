/-! ### clause, desk, clear: the class's side -/
section CDK
variable {N : Nat} {C : Nat × Nat} {ow : Nat → Nat} {g : ag_H} {lc : Nat → Nat} {ln : Nat} {M : List g_Cl} {Bs : List (List g_Cl)} {D : List g_Cl} {Ts : List w_T} {K most more : Nat} {re : Int32} {rd : Nat} {un : Int32} {Gs : List j_R}
theorem c_moveD (h : cI ow g lc ln M Bs D Ts K most more re rd un Gs) (hD : D.length < 10) {a : Nat} {x : g_Cl} (hx : cl_rep (own ow 0) g a x) (hC1 : g.1 + 1 ≤ C.1) (hC2 : g.2.1 + 10 ≤ C.2) :
    ∃ g', fn_GC_moveLine N C 2 (some a) (some 46) g = some (Int32.ofNat x.1, g') ∧ (g.1 ≤ g'.1 ∧ g'.1 ≤ g.1 + 1 ∧ g.2.1 ≤ g'.2.1 ∧ g'.2.1 ≤ g.2.1 + 10 ∧ g'.2.2 74 = g.2.2 74) ∧ cI (ow_nx ow g.1 2) g' lc 0 M Bs (D ++ [x]) Ts K most more re rd un Gs := by
  obtain ⟨h1, ⟨p, f, l1, l2, l3⟩, ⟨kk, nv, bv, st, r1, r2⟩, hJ, hNn, mk, hG, hO⟩ := h
  have hO1 : cO (ow_nx ow g.1 2) g mk M Bs D Ts := cO_ow (fun q hq => ow_lt hq) (ow_ok h1 hO.1) h1 hO
  have hx1 : cl_rep (own (ow_nx ow g.1 2) 0) g a x := cl_mono (fun q hq hl => by show ow_nx ow g.1 2 q = 0; rw [ow_lt hl]; exact hq) hx
  obtain ⟨o1, ⟨o2, o3⟩, o4, o5, o6, o7, o8, o9, lm, o10, o11⟩ := hO1
  obtain ⟨c7, fsx, hax, hci⟩ := cl_cls hx1
  obtain ⟨g', k1, k2, k3, k4, k5, k6, k7, k8⟩ := al_push (N := N) (C := C) o4 hD hx1 hax hci hC1 hC2 (ow_ge (Nat.lt_irrefl _))
  have cell : ∀ q, ow_nx ow g.1 2 q ≠ 2 → g'.2.2 q = g.2.2 q := fun q hq => k7 q hq
  have lo : ∀ q, q < 46 ∨ (52 ≤ q ∧ q < 75) → g'.2.2 q = g.2.2 q := fun q hq => cell q (fun e => by have := o1 q (by rw [e]; decide); omega)
  have e3 : ag_at g' (.ref 3) = some (.inr (1, [.ref 4, .int (Int32.ofNat ln), .int p])) := pu_at (by omega) (by omega) ((lo 3 (by omega)).trans l1)
  have e2 : ag_at g' (.ref 2) = some (.inr (0, [.ref 3, .ref 5, .ref 7, .ref 46, .ref 48, .ref 49, .ref mk, .int (Int32.ofNat K), .int (Int32.ofNat most), .int (Int32.ofNat more)])) := pu_at (by omega) (by omega) ((lo 2 (by omega)).trans hG)
  have q0 : ∀ q, own (ow_nx ow g.1 2) 0 q → q < g.1 → g'.2.2 q = g.2.2 q := fun q hq _ => cell q (fun e => by have hq : ow_nx ow g.1 2 q = 0 := hq; omega)
  have up : ∀ q, q ≠ 3 → (ag_up g' 3 (.inr (1, [.ref 4, .int (Int32.ofInt 0), .int p]))).2.2 q = g'.2.2 q := fun q hq => if_neg hq
  have hx2 : cl_rep (own (ow_nx ow g.1 2) 0) (ag_up g' 3 (.inr (1, [.ref 4, .int (Int32.ofInt 0), .int p]))) a x := cl_ext (g := g') (g' := ag_up g' 3 (.inr (1, [.ref 4, .int (Int32.ofInt 0), .int p]))) (Nat.le_refl _) (fun q hq _ => up q (fun e => by have hq : ow_nx ow g.1 2 q = 0 := hq; have := o1 q (by rw [hq]; decide); omega)) (cl_ext k3 q0 hx1)
  refine ⟨ag_up g' 3 (.inr (1, [.ref 4, .int (Int32.ofInt 0), .int p])), ?_, ⟨k3, k4, k5, k6, (up 74 (by decide)).trans (lo 74 (by omega))⟩, ?_⟩
  · unfold fn_GC_moveLine fn_GC_moveLine_0
    rw [pu_gr (k := 0) (pu_at (q := 46) (by omega) (by omega) o3) rfl, Option.bind_some, al_rep_rc o4, Option.bind_some, k1, Option.bind_some]
    dsimp only
    rw [pu_gr (k := 0) e2 rfl, Option.bind_some]
    show ((ag_pf g' (ag_rf (some 3)) 1 1 .int (.int (Int32.ofInt 0))).bind _) = _
    rw [pu_pf e3 (Nat.le_of_ble_eq_true rfl) rfl rfl, Option.bind_some]
    show ((ag_gi (ag_up g' 3 (.inr (1, [.ref 4, .int (Int32.ofInt 0), .int p]))) (some a) 7 0).bind _) = _
    rw [cl_kind hx2, Option.bind_some]
    rfl
  · refine ⟨Nat.le_trans h1 k3, ⟨p, f, rfl, (up 4 (by omega)).trans ((lo 4 (by omega)).trans l2), fun i hi => absurd hi (by omega)⟩, ⟨kk, nv, bv, st, (up 5 (by omega)).trans ((lo 5 (by omega)).trans r1), (up 6 (by omega)).trans ((lo 6 (by omega)).trans r2)⟩, cJ_ext (fun q a b => (up q (by omega)).trans (lo q (by omega))) hJ, cN_ext (fun q a b => (up q (by omega)).trans (lo q (by omega))) hNn, mk, (up 2 (by omega)).trans ((lo 2 (by omega)).trans hG), ?_⟩
    refine cO_ext (g := g') (Nat.le_refl _) (fun q hq _ => up q (fun e => by have := o1 q hq; omega)) (Nat.le_trans h1 k3) ?_
    have q5 : ∀ q, own (ow_nx ow g.1 2) 5 q → q < g.1 → g'.2.2 q = g.2.2 q := fun q hq _ => cell q (fun e => by have hq : ow_nx ow g.1 2 q = 5 := hq; omega)
    have q3 : ∀ q, own (ow_nx ow g.1 2) 3 q → q < g.1 → g'.2.2 q = g.2.2 q := fun q hq _ => cell q (fun e => by have hq : ow_nx ow g.1 2 q = 3 := hq; omega)
    have q4 : ∀ q, own (ow_nx ow g.1 2) 4 q → q < g.1 → g'.2.2 q = g.2.2 q := fun q hq _ => cell q (fun e => by have hq : ow_nx ow g.1 2 q = 4 := hq; omega)
    exact ⟨o1, ⟨o2, (q0 46 o2 (by omega)).trans o3⟩, al_rep_mono (fun _ h _ => h) (fun _ _ _ h => cl_ext k3 q0 h) k2, al_rep_mono (fun _ h _ => h) (fun _ _ _ h => bl_ext k3 q0 h) (al_rep_ext k3 q3 o5), al_rep_mono (fun _ h _ => h) (fun _ _ _ h => tk_ext k3 q0 h) (al_rep_ext k3 q4 o6), o7, o8, Nat.lt_of_lt_of_le o9 k3, lm, (q0 mk o7 o9).trans o10, al_rep_mono (fun _ h _ => h) (fun _ _ _ h => cl_ext k3 q0 h) (al_rep_ext k3 q5 o11)⟩
/-- how far a call may go -/
def c_fr (g g' : ag_H) (a b : Nat) : Prop := g.1 ≤ g'.1 ∧ g'.1 ≤ g.1 + a ∧ g.2.1 ≤ g'.2.1 ∧ g'.2.1 ≤ g.2.1 + b ∧ g'.2.2 74 = g.2.2 74
theorem c_exc (h : cI ow g lc ln M Bs D Ts K most more re rd un Gs) (ci : Nat) : cI (ow_nx ow g.1 1) (ag_nw g 6 (.inr (ci, []))) lc ln M Bs D Ts K most more re rd un Gs ∧ ag_at (ag_nw g 6 (.inr (ci, []))) (.ref g.1) = some (.inr (ci, [])) ∧ c_fr g (ag_nw g 6 (.inr (ci, []))) 1 6 :=
  ⟨cI_nw _ _ _ h, pu_nw_new (by have := h.1; omega), show g.1 ≤ g.1 + 1 by omega, show g.1 + 1 ≤ g.1 + 1 by omega, show g.2.1 ≤ g.2.1 + 6 by omega, show g.2.1 + 6 ≤ g.2.1 + 6 by omega, if_neg (by have := h.1; omega)⟩
theorem c_clause (h : cI ow g lc ln M Bs D Ts K most more re rd un Gs) (ok : g_ok lc ln M Bs D Ts K most more) (hN : 60 ≤ N) (hC1 : g.1 + 20 ≤ C.1) (hC2 : g.2.1 + 200 ≤ C.2) :
    ∃ g' ow', c_fr g g' 20 200 ∧ match (s_cl lc ln M).2.2 with
      | none => ∃ e ci, fn_GC_clause N C 2 g = some (.inr e, g') ∧ ag_at g' (.ref e) = some (.inr (ci, [])) ∧ kd_clause ci = some (s_cl lc ln M).2.1 ∧ cI ow' g' lc ln M Bs D Ts K most more re rd un Gs
      | some x => fn_GC_clause N C 2 g = some (.inl (s_cl lc ln M).1, g') ∧ (s_cl lc ln M).2.1 = Int32.ofInt 0 ∧ cI ow' g' lc 0 (M ++ [x]) Bs D Ts K most more re rd un Gs := by
  obtain ⟨g1, r, k1, ⟨k2, k3, k4, k5, k6⟩, k7, k8⟩ := c_rdI (N := N) (C := C) h ok.1 hN (by omega) (by omega)
  obtain ⟨h1, -, ⟨kk, nv, bv, st, r1, r2⟩, -, -, mk, hG, -⟩ := h
  have e2 : ag_at g (.ref 2) = some (.inr (0, [.ref 3, .ref 5, .ref 7, .ref 46, .ref 48, .ref 49, .ref mk, .int (Int32.ofNat K), .int (Int32.ofNat most), .int (Int32.ofNat more)])) := pu_at (by omega) (by omega) hG
  have e5 : ag_at g (.ref 5) = some (.inr (2, [.ref 6, .int kk, .int nv, .int bv])) := pu_at (by omega) (by omega) r1
  have ex : ∀ ci, ∃ e, some ((Sum.inr g1.1 : Int32 ⊕ Nat), ag_nw g1 6 (.inr (ci, []))) = some (.inr e, ag_nw g1 6 (.inr (ci, []))) ∧ ag_at (ag_nw g1 6 (.inr (ci, []))) (.ref e) = some (.inr (ci, [])) ∧ cI (ow_nx (ow_nx ow g.1 0) g1.1 1) (ag_nw g1 6 (.inr (ci, []))) lc ln M Bs D Ts K most more re rd un Gs ∧ c_fr g (ag_nw g1 6 (.inr (ci, []))) 20 200 := fun ci => by
    obtain ⟨x1, x2, x3, x4, x5, x6, x7⟩ := c_exc k7 ci
    exact ⟨g1.1, rfl, x2, x1, by omega, by omega, by omega, by omega, x7.trans k6⟩
  have hroom : g1.1 + 1 ≤ C.1 ∧ g1.2.1 + 6 ≤ C.2 := ⟨by omega, by omega⟩
  have e0 : fn_GC_clause N C 2 g = (if r = none then (if g1.1 + 1 ≤ C.1 ∧ g1.2.1 + 6 ≤ C.2 then some (.inr g1.1, ag_nw g1 6 (.inr (12, []))) else none) else ((ag_gi g1 r 7 0).bind fun g10 => if g10 = Int32.ofInt 4 then fn_GC_clause_40 N C 2 g1 else ((ag_gi g1 r 7 0).bind fun g14 => if g14 = Int32.ofInt 5 then fn_GC_clause_40 N C 2 g1 else ((ag_gr g1 (some 2) 0 6).bind fun g18 => (ag_gr g1 g18 5 0).bind fun g19 => (ag_rc g1 g19 11).bind fun a20 => (fn_AL_size N C a20 g1).bind fun r20 => if r20.1 < Int32.ofInt 5 then ((ag_gr r20.2 (some 2) 0 6).bind fun g26 => (ag_rc r20.2 (some 2) 0).bind fun a27 => (fn_GC_moveLine N C a27 r g26 r20.2).bind fun r27 => some (.inl r27.1, r27.2)) else (if r20.2.1 + 1 ≤ C.1 ∧ r20.2.2.1 + 6 ≤ C.2 then some (.inr r20.2.1, ag_nw r20.2 6 (.inr (13, []))) else none))))) := by
    unfold fn_GC_clause fn_GC_clause_0
    rw [pu_gr (k := 1) e2 rfl, Option.bind_some, pu_gr (k := 0) e2 rfl, Option.bind_some, pu_rc e5, Option.bind_some, k1, Option.bind_some]
  rw [e0]
  unfold s_cl
  cases e : g_rd lc ln with
  | none =>
    rw [e] at k8
    simp only at k8
    rw [k8, if_pos rfl, if_pos hroom]
    obtain ⟨e', x1, x2, x3, x4⟩ := ex 12
    exact ⟨_, _, x4, e', 12, x1, x2, rfl, x3⟩
  | some x =>
    rw [e] at k8
    obtain ⟨a, rfl, hx⟩ := k8
    have hx5 := (g_rd_ok ok.1.1 e).2.1
    rw [if_neg (show ¬ some a = none from fun q => by cases q), cl_kind hx, Option.bind_some]
    dsimp only
    by_cases e3 : 3 < x.1
    · rw [if_pos e3]
      have h40 : fn_GC_clause_40 N C 2 g1 = some (.inr g1.1, ag_nw g1 6 (.inr (15, []))) := if_pos hroom
      obtain ⟨e', x1, x2, x3, x4⟩ := ex 15
      refine ⟨_, _, x4, e', 15, ?_, x2, rfl, x3⟩
      by_cases e4 : x.1 = 4
      · rw [if_pos (show Int32.ofNat x.1 = Int32.ofInt 4 by rw [e4]; rfl), h40]; exact x1
      · rw [if_neg (show ¬ Int32.ofNat x.1 = Int32.ofInt 4 by rw [n_4]; exact n_eqF e4 (by omega) (by omega)), Option.bind_some, if_pos (show Int32.ofNat x.1 = Int32.ofInt 5 by rw [show x.1 = 5 by omega]; rfl), h40]; exact x1
    · have k70 := k7
      obtain ⟨g75, -, -, -, -, mk1, hG1, hO1⟩ := k7
      have e21 : ag_at g1 (.ref 2) = some (.inr (0, [.ref 3, .ref 5, .ref 7, .ref 46, .ref 48, .ref 49, .ref mk1, .int (Int32.ofNat K), .int (Int32.ofNat most), .int (Int32.ofNat more)])) := pu_at (by omega) (by omega) hG1
      obtain ⟨o1, -, -, -, -, o7, o8, o9, lm, o10, o11⟩ := hO1
      rw [if_neg e3, if_neg (show ¬ Int32.ofNat x.1 = Int32.ofInt 4 by rw [n_4]; exact n_eqF (by omega) (by omega) (by omega)), Option.bind_some, if_neg (show ¬ Int32.ofNat x.1 = Int32.ofInt 5 by rw [n_5]; exact n_eqF (by omega) (by omega) (by omega)), pu_gr (k := 6) e21 rfl, Option.bind_some, pu_gr (k := 0) (pu_at o8 o9 o10) rfl, Option.bind_some, al_rep_rc o11, Option.bind_some, al_rep_size o11, Option.bind_some, n_5]
      dsimp only
      have hM5 := ok.2.1.1
      by_cases e5 : M.length = 5
      · rw [if_pos e5, if_neg (n_ltF (by omega) (by omega)), if_pos hroom]
        obtain ⟨e', x1, x2, x3, x4⟩ := ex 13
        exact ⟨_, _, x4, e', 13, x1, x2, rfl, x3⟩
      · rw [if_neg e5, if_pos (n_ltT (by omega) (by omega)), pu_gr (k := 6) e21 rfl, Option.bind_some, pu_rc e21, Option.bind_some]
        obtain ⟨g', y1, ⟨y2, y3, y4, y5, y6⟩, y7⟩ := c_moveM (N := N) (C := C) k70 hG1 (by omega) hx (by omega) (by omega)
        dsimp only
        rw [y1, Option.bind_some]
        exact ⟨g', _, ⟨by omega, by omega, by omega, by omega, y6.trans k6⟩, rfl, rfl, y7⟩
theorem c_desk (h : cI ow g lc ln M Bs D Ts K most more re rd un Gs) (ok : g_ok lc ln M Bs D Ts K most more) (hN : 60 ≤ N) (hC1 : g.1 + 20 ≤ C.1) (hC2 : g.2.1 + 200 ≤ C.2) :
    ∃ g' ow', c_fr g g' 20 200 ∧ match (s_de lc ln D).2.2 with
      | none => ∃ e ci, fn_GC_desk N C 2 g = some (.inr e, g') ∧ ag_at g' (.ref e) = some (.inr (ci, [])) ∧ kd_desk ci = some (s_de lc ln D).2.1 ∧ cI ow' g' lc ln M Bs D Ts K most more re rd un Gs
      | some x => fn_GC_desk N C 2 g = some (.inl (s_de lc ln D).1, g') ∧ (s_de lc ln D).2.1 = Int32.ofInt 0 ∧ cI ow' g' lc 0 M Bs (D ++ [x]) Ts K most more re rd un Gs := by
  obtain ⟨g1, r, k1, ⟨k2, k3, k4, k5, k6⟩, k7, k8⟩ := c_rdI (N := N) (C := C) h ok.1 hN (by omega) (by omega)
  obtain ⟨h1, -, ⟨kk, nv, bv, st, r1, r2⟩, -, -, mk, hG, -⟩ := h
  have e2 : ag_at g (.ref 2) = some (.inr (0, [.ref 3, .ref 5, .ref 7, .ref 46, .ref 48, .ref 49, .ref mk, .int (Int32.ofNat K), .int (Int32.ofNat most), .int (Int32.ofNat more)])) := pu_at (by omega) (by omega) hG
  have e5 : ag_at g (.ref 5) = some (.inr (2, [.ref 6, .int kk, .int nv, .int bv])) := pu_at (by omega) (by omega) r1
  have ex : ∀ ci, ∃ e, some ((Sum.inr g1.1 : Int32 ⊕ Nat), ag_nw g1 6 (.inr (ci, []))) = some (.inr e, ag_nw g1 6 (.inr (ci, []))) ∧ ag_at (ag_nw g1 6 (.inr (ci, []))) (.ref e) = some (.inr (ci, [])) ∧ cI (ow_nx (ow_nx ow g.1 0) g1.1 1) (ag_nw g1 6 (.inr (ci, []))) lc ln M Bs D Ts K most more re rd un Gs ∧ c_fr g (ag_nw g1 6 (.inr (ci, []))) 20 200 := fun ci => by
    obtain ⟨x1, x2, x3, x4, x5, x6, x7⟩ := c_exc k7 ci
    exact ⟨g1.1, rfl, x2, x1, by omega, by omega, by omega, by omega, x7.trans k6⟩
  have hroom : g1.1 + 1 ≤ C.1 ∧ g1.2.1 + 6 ≤ C.2 := ⟨by omega, by omega⟩
  have e0 : fn_GC_desk N C 2 g = (if r = none then (if g1.1 + 1 ≤ C.1 ∧ g1.2.1 + 6 ≤ C.2 then some (.inr g1.1, ag_nw g1 6 (.inr (12, []))) else none) else ((ag_gr g1 (some 2) 0 3).bind fun g10 => (ag_gr g1 g10 5 0).bind fun g11 => (ag_rc g1 g11 11).bind fun a12 => (fn_AL_size N C a12 g1).bind fun r12 => if r12.1 < (Int8.ofInt (10)).toInt32 then ((ag_gr r12.2 (some 2) 0 3).bind fun g18 => (ag_rc r12.2 (some 2) 0).bind fun a19 => (fn_GC_moveLine N C a19 r g18 r12.2).bind fun r19 => some (.inl r19.1, r19.2)) else (if r12.2.1 + 1 ≤ C.1 ∧ r12.2.2.1 + 6 ≤ C.2 then some (.inr r12.2.1, ag_nw r12.2 6 (.inr (13, []))) else none))) := by
    unfold fn_GC_desk fn_GC_desk_0
    rw [pu_gr (k := 1) e2 rfl, Option.bind_some, pu_gr (k := 0) e2 rfl, Option.bind_some, pu_rc e5, Option.bind_some, k1, Option.bind_some]
  rw [e0]
  unfold s_de
  cases e : g_rd lc ln with
  | none =>
    rw [e] at k8
    simp only at k8
    rw [k8, if_pos rfl, if_pos hroom]
    obtain ⟨e', x1, x2, x3, x4⟩ := ex 12
    exact ⟨_, _, x4, e', 12, x1, x2, rfl, x3⟩
  | some x =>
    rw [e] at k8
    obtain ⟨a, rfl, hx⟩ := k8
    have hx5 := (g_rd_ok ok.1.1 e).2.1
    have k70 := k7
    obtain ⟨g75, -, -, -, -, mk1, hG1, hO1⟩ := k7
    have e21 : ag_at g1 (.ref 2) = some (.inr (0, [.ref 3, .ref 5, .ref 7, .ref 46, .ref 48, .ref 49, .ref mk1, .int (Int32.ofNat K), .int (Int32.ofNat most), .int (Int32.ofNat more)])) := pu_at (by omega) (by omega) hG1
    obtain ⟨o1, ⟨o2, o3⟩, o4, -⟩ := hO1
    rw [if_neg (show ¬ some a = none from fun q => by cases q), pu_gr (k := 3) e21 rfl, Option.bind_some, pu_gr (k := 0) (pu_at (q := 46) (by omega) (by omega) o3) rfl, Option.bind_some, al_rep_rc o4, Option.bind_some, al_rep_size o4, Option.bind_some, n_c10]
    dsimp only
    have hD10 := ok.2.2.2.1.1
    by_cases e5 : D.length = 10
    · rw [if_pos e5, if_neg (n_ltF (by omega) (by omega)), if_pos hroom]
      obtain ⟨e', x1, x2, x3, x4⟩ := ex 13
      exact ⟨_, _, x4, e', 13, x1, x2, rfl, x3⟩
    · rw [if_neg e5, if_pos (n_ltT (by omega) (by omega)), pu_gr (k := 3) e21 rfl, Option.bind_some, pu_rc e21, Option.bind_some]
      obtain ⟨g', y1, ⟨y2, y3, y4, y5, y6⟩, y7⟩ := c_moveD (N := N) (C := C) k70 (by omega) hx (by omega) (by omega)
      dsimp only
      rw [y1, Option.bind_some]
      exact ⟨g', _, ⟨by omega, by omega, by omega, by omega, y6.trans k6⟩, rfl, rfl, y7⟩
end CDK
