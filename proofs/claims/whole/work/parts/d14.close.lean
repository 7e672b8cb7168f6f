/-! ### The block is closed, the token gets its link -/
section CLO
variable {N : Nat} {C : Nat × Nat} {ow : Nat → Nat} {g : ag_H} {lc : Nat → Nat} {ln : Nat} {M : List g_Cl} {Bs : List (List g_Cl)} {D : List g_Cl} {Ts : List w_T} {K most more : Nat} {re : Int32} {rd : Nat} {un : Int32} {Gs : List j_R} {t : Nat} {T : w_T}
theorem c_closeB (h : cI ow g lc ln M Bs D Ts K most more re rd un Gs) (hB : Bs.length ≤ 16) (hC1 : g.1 + 3 ≤ C.1) (hC2 : g.2.1 + 49 ≤ C.2) : ∃ mk g1 g2 g3 ow3, ag_gr g (some 2) 0 6 = some (some mk) ∧ fn_AL_add N C 48 (some mk) g = some (Int32.ofInt 1, g1) ∧ (g1.1 + 1 ≤ C.1 ∧ g1.2.1 + 1 ≤ C.2) ∧ fn_Bk_init N C g1.1 (ag_nw g1 1 (.inr (5, [.null]))) = some (0, g2) ∧ ag_pf g2 (ag_rf (some 2)) 0 6 (.object "GrantChain$Block") (.ref g1.1) = some g3 ∧ c_fr g g3 3 49 ∧ cI ow3 g3 lc ln [] (Bs ++ [M]) D Ts K most more re rd un Gs ∧ (∀ q, q < g.1 → ow q = 6 ∨ ow q = 0 → ow3 q = ow q ∧ g3.2.2 q = g.2.2 q) := by
  obtain ⟨h1, ⟨p, f, l1, l2, l3⟩, ⟨kk, nv, bv, st, q1, q2⟩, hJ, hNn, mk, hG, hO⟩ := h
  -- the label of the block that is made goes
  obtain ⟨o1, ⟨o2, o3⟩, o4, o5, o6, o7, o8, o9, lm, o10, o11⟩ := hO
  have hw : ∀ q, q < g.1 → ow q ≠ 5 → ow_nx (fun q => if ow q = 5 then 0 else ow q) g.1 3 q = ow q := fun q a b => (ow_lt a).trans (if_neg b)
  have m : ∀ k, k ≠ 5 → ∀ q, own ow k q → q < g.1 → own (ow_nx (fun q => if ow q = 5 then 0 else ow q) g.1 3) k q := fun k hk q a b => (hw q b (fun e => by have a : ow q = k := a; omega)).trans a
  have m0 := m 0 (by decide)
  have m5 : ∀ q, own ow 5 q → q < g.1 → own (ow_nx (fun q => if ow q = 5 then 0 else ow q) g.1 3) 0 q := fun q a b => (ow_lt b).trans (if_pos a)
  have hbl : bl_rep (own (ow_nx (fun q => if ow q = 5 then 0 else ow q) g.1 3) 0) g mk M := ⟨m0 mk o7 o9, o8, o9, lm, o10, al_rep_mono m5 (fun _ _ _ h => cl_mono m0 h) o11⟩
  obtain ⟨ci, fs, hb, hc⟩ := bl_cls hbl
  obtain ⟨g1, k1, k2, k3, k4, k5, k6, k7, k8⟩ := al_pushG (N := N) (C := C) (al_rep_mono (m 3 (by decide)) (fun _ _ _ h => bl_mono m0 h) o5) (by omega) hbl (fun b y hb => bl_cls hb) hb hc (by omega) (by omega) (ow_ge (Nat.lt_irrefl _))
  have e2 : ag_at g (.ref 2) = _ := pu_at (by omega) (by omega) hG
  have ok1 : ∀ q, ow_nx (fun q => if ow q = 5 then 0 else ow q) g.1 3 q ≠ 1 → (46 ≤ q ∧ q < 52) ∨ 75 ≤ q := fun q hq => by
    by_cases e : q < g.1
    · rw [ow_lt e] at hq
      by_cases e5 : ow q = 5
      · exact o1 q (by omega)
      · rw [if_neg e5] at hq
        exact o1 q hq
    · omega
  have hq1 : ∀ q, ow_nx (fun q => if ow q = 5 then 0 else ow q) g.1 3 q ≠ 3 → g1.2.2 q = g.2.2 q := fun q a => k7 q a
  have lo1 : ∀ q, q < 46 ∨ (52 ≤ q ∧ q < 75) → g1.2.2 q = g.2.2 q := fun q hx => hq1 q (fun e => by have := ok1 q (by omega); omega)
  -- the new block
  have en1 : ag_at (ag_nw g1 1 (.inr (5, [.null]))) (.ref g1.1) = some (.inr (5, [.null])) := pu_nw_new (by omega)
  have en2 : ag_at (ag_nw (ag_nw g1 1 (.inr (5, [.null]))) 3 (.inr (11, [.ref 1, .int 0, .int (Int32.ofInt 0)]))) (.ref g1.1) = some (.inr (5, [.null])) := pu_nw_old en1
  have hb2 : fn_Bk_init N C g1.1 (ag_nw g1 1 (.inr (5, [.null]))) = some (0, ag_up (ag_nw (ag_nw g1 1 (.inr (5, [.null]))) 3 (.inr (11, [.ref 1, .int 0, .int (Int32.ofInt 0)]))) g1.1 (.inr (5, [.ref (g1.1 + 1)]))) := by
    unfold fn_Bk_init fn_Bk_init_0
    rw [if_pos ⟨show g1.1 + 1 + 1 ≤ C.1 by omega, show g1.2.1 + 1 + 3 ≤ C.2 by omega⟩, al_init (g := ag_nw g1 1 (.inr (5, [.null]))) (show 2 ≤ g1.1 + 1 by omega), Option.bind_some]
    dsimp only
    rw [pu_pf en2 (Nat.le_of_ble_eq_true rfl) rfl rfl, Option.bind_some]
    rfl
  have hc2 : ∀ q, q < g1.1 → (ag_up (ag_nw (ag_nw g1 1 (.inr (5, [.null]))) 3 (.inr (11, [.ref 1, .int 0, .int (Int32.ofInt 0)]))) g1.1 (.inr (5, [.ref (g1.1 + 1)]))).2.2 q = g1.2.2 q := fun q hq => (if_neg (by omega)).trans ((if_neg (show ¬ q = g1.1 + 1 by omega)).trans (if_neg (by omega)))
  have hn2 : (ag_up (ag_nw (ag_nw g1 1 (.inr (5, [.null]))) 3 (.inr (11, [.ref 1, .int 0, .int (Int32.ofInt 0)]))) g1.1 (.inr (5, [.ref (g1.1 + 1)]))).1 = g1.1 + 1 + 1 := rfl
  have hs2 : (ag_up (ag_nw (ag_nw g1 1 (.inr (5, [.null]))) 3 (.inr (11, [.ref 1, .int 0, .int (Int32.ofInt 0)]))) g1.1 (.inr (5, [.ref (g1.1 + 1)]))).2.1 = g1.2.1 + 1 + 3 := rfl
  have hbk : (ag_up (ag_nw (ag_nw g1 1 (.inr (5, [.null]))) 3 (.inr (11, [.ref 1, .int 0, .int (Int32.ofInt 0)]))) g1.1 (.inr (5, [.ref (g1.1 + 1)]))).2.2 g1.1 = .inr (5, [.ref (g1.1 + 1)]) := if_pos rfl
  have hbl2 : (ag_up (ag_nw (ag_nw g1 1 (.inr (5, [.null]))) 3 (.inr (11, [.ref 1, .int 0, .int (Int32.ofInt 0)]))) g1.1 (.inr (5, [.ref (g1.1 + 1)]))).2.2 (g1.1 + 1) = .inr (11, [.ref 1, .int (Int32.ofNat 0), .int (Int32.ofInt 0)]) := (if_neg (by omega)).trans (if_pos rfl)
  generalize ag_up (ag_nw (ag_nw g1 1 (.inr (5, [.null]))) 3 (.inr (11, [.ref 1, .int 0, .int (Int32.ofInt 0)]))) g1.1 (.inr (5, [.ref (g1.1 + 1)])) = g2 at hb2 hc2 hn2 hs2 hbk hbl2
  have e22 : ag_at g2 (.ref 2) = some (.inr (0, [.ref 3, .ref 5, .ref 7, .ref 46, .ref 48, .ref 49, .ref mk, .int (Int32.ofNat K), .int (Int32.ofNat most), .int (Int32.ofNat more)])) := pu_at (by omega) (by omega) ((hc2 2 (by omega)).trans ((lo1 2 (by omega)).trans hG))
  have up : ∀ q, q ≠ 2 → (ag_up g2 2 (.inr (0, [.ref 3, .ref 5, .ref 7, .ref 46, .ref 48, .ref 49, .ref g1.1, .int (Int32.ofNat K), .int (Int32.ofNat most), .int (Int32.ofNat more)]))).2.2 q = g2.2.2 q := fun q hq => if_neg hq
  have h22 : (ag_up g2 2 (.inr (0, [.ref 3, .ref 5, .ref 7, .ref 46, .ref 48, .ref 49, .ref g1.1, .int (Int32.ofNat K), .int (Int32.ofNat most), .int (Int32.ofNat more)]))).2.2 2 = .inr (0, [.ref 3, .ref 5, .ref 7, .ref 46, .ref 48, .ref 49, .ref g1.1, .int (Int32.ofNat K), .int (Int32.ofNat most), .int (Int32.ofNat more)]) := rfl
  have hpf : ag_pf g2 (ag_rf (some 2)) 0 6 (.object "GrantChain$Block") (.ref g1.1) = some (ag_up g2 2 (.inr (0, [.ref 3, .ref 5, .ref 7, .ref 46, .ref 48, .ref 49, .ref g1.1, .int (Int32.ofNat K), .int (Int32.ofNat most), .int (Int32.ofNat more)]))) := pu_pf e22 (Nat.le_of_ble_eq_true rfl) rfl rfl
  refine ⟨mk, g1, g2, ag_up g2 2 (.inr (0, [.ref 3, .ref 5, .ref 7, .ref 46, .ref 48, .ref 49, .ref g1.1, .int (Int32.ofNat K), .int (Int32.ofNat most), .int (Int32.ofNat more)])), fun q => if q = g1.1 then 0 else if q = g1.1 + 1 then 5 else ow_nx (fun q => if ow q = 5 then 0 else ow q) g.1 3 q, pu_gr (k := 6) e2 rfl, k1, ⟨by omega, by omega⟩, hb2, hpf, ?_, ?_, ?_⟩
  · exact ⟨by show g.1 ≤ g2.1; omega, by show g2.1 ≤ _; omega, by show g.2.1 ≤ g2.2.1; omega, by show g2.2.1 ≤ _; omega, (up 74 (by decide)).trans ((hc2 74 (by omega)).trans (lo1 74 (by omega)))⟩
  · generalize ag_up g2 2 (.inr (0, [.ref 3, .ref 5, .ref 7, .ref 46, .ref 48, .ref 49, .ref g1.1, .int (Int32.ofNat K), .int (Int32.ofNat most), .int (Int32.ofNat more)])) = g3 at up h22 hpf
    have hn3 : g3.1 = g2.1 := by
      have e := hpf
      rw [pu_pf e22 (Nat.le_of_ble_eq_true rfl) rfl rfl] at e
      cases e
      rfl
    have lo3 : ∀ q, q ≠ 2 → q < 46 ∨ (52 ≤ q ∧ q < 75) → g3.2.2 q = g.2.2 q := fun q a b => (up q a).trans ((hc2 q (by omega)).trans (lo1 q b))
    have lab : ∀ q, q < g1.1 → (fun q => if q = g1.1 then 0 else if q = g1.1 + 1 then 5 else ow_nx (fun q => if ow q = 5 then 0 else ow q) g.1 3 q) q = ow_nx (fun q => if ow q = 5 then 0 else ow q) g.1 3 q := fun q hq => (if_neg (by omega)).trans (if_neg (by omega))
    generalize hW : (fun q => if q = g1.1 then 0 else if q = g1.1 + 1 then 5 else ow_nx (fun q => if ow q = 5 then 0 else ow q) g.1 3 q) = W at lab
    have labn : W g1.1 = 0 := by rw [← hW]; exact if_pos rfl
    have labl : W (g1.1 + 1) = 5 := by rw [← hW]; exact (if_neg (by omega)).trans (if_pos rfl)
    have okW : ∀ q, W q ≠ 1 → (46 ≤ q ∧ q < 52) ∨ 75 ≤ q := fun q hq => by
      by_cases e : q < g1.1
      · rw [lab q e] at hq; exact ok1 q hq
      · omega
    -- from the old labels to the new ones, below the first heap's end
    have mW : ∀ k, k ≠ 5 → ∀ q, own ow k q → q < g.1 → own W k q := fun k hk q a b => (lab q (by omega)).trans (m k hk q a b)
    have cW : ∀ k, k ≠ 1 → k ≠ 3 → ∀ q, own ow k q → q < g.1 → g3.2.2 q = g.2.2 q := fun k hk1 hk q a b => (up q (fun e => by have a : ow q = k := a; have := o1 q (by omega); omega)).trans ((hc2 q (by omega)).trans (hq1 q (fun e => by
      have a : ow q = k := a
      rw [ow_lt b] at e
      by_cases e5 : ow q = 5
      · rw [if_pos e5] at e; cases e
      · rw [if_neg e5] at e; omega)))
    have c0 := cW 0 (by decide) (by decide)
    have hg3 : g.1 ≤ g3.1 := by omega
    have e0cl : ∀ b x, cl_rep (own ow 0) g b x → cl_rep (own W 0) g3 b x := fun b x hx => cl_mono (fun q a _ => a) (by
      have hx1 := cl_mono (P' := fun q => own ow 0 q ∧ q < g.1) (fun q a b => ⟨a, b⟩) hx
      exact cl_mono (P' := own W 0) (fun q a _ => mW 0 (by decide) q a.1 a.2) (cl_ext (g' := g3) hg3 (fun q a b => c0 q a.1 b) hx1))
    have e0tk : ∀ b x, tk_rep (own ow 0) g b x → tk_rep (own W 0) g3 b x := fun b x hx => by
      have hx1 := tk_mono (P' := fun q => own ow 0 q ∧ q < g.1) (fun q a b => ⟨a, b⟩) hx
      exact tk_mono (P' := own W 0) (fun q a _ => mW 0 (by decide) q a.1 a.2) (tk_ext (g' := g3) hg3 (fun q a b => c0 q a.1 b) hx1)
    have e0al : ∀ (k : Nat), k ≠ 1 → k ≠ 3 → k ≠ 5 → ∀ {α : Type} {R R' : Nat → α → Prop} {l : Nat} {xs : List α}, (∀ b x, R b x → R' b x) → al_rep (own ow k) R g l xs → al_rep (own W k) R' g3 l xs := by
      intro k hk1 hk3 hk5 α R R' l xs hRR r
      have r1 := al_rep_mono (P' := fun q => own ow k q ∧ q < g.1) (R' := R) (fun q a b => ⟨a, b⟩) (fun _ _ _ h => h) r
      exact al_rep_mono (P' := own W k) (fun q a _ => mW k hk5 q a.1 a.2) (fun b x _ h => hRR b x h) (al_rep_ext (g' := g3) hg3 (fun q a b => cW k hk1 hk3 q a.1 b) r1)
    refine ⟨by omega, ⟨p, f, (lo3 3 (by omega) (by omega)).trans l1, (lo3 4 (by omega) (by omega)).trans l2, l3⟩, ⟨kk, nv, bv, st, (lo3 5 (by omega) (by omega)).trans q1, (lo3 6 (by omega) (by omega)).trans q2⟩, cJ_ext (fun q a b => lo3 q (by omega) (by omega)) hJ, cN_ext (fun q a b => lo3 q (by omega) (by omega)) hNn, g1.1, h22, okW, ⟨mW 0 (by decide) 46 o2 (by omega), (c0 46 o2 (by omega)).trans o3⟩, e0al 2 (by decide) (by decide) (by decide) e0cl o4, ?_, e0al 4 (by decide) (by decide) (by decide) e0tk o6, labn, by omega, by omega, g1.1 + 1, (up g1.1 (by omega)).trans hbk, labl, by omega, by omega, Int32.ofInt 0, Or.inl ⟨rfl, (up (g1.1 + 1) (by omega)).trans hbl2⟩⟩
    -- the list of blocks
    have k2a := al_rep_mono (P' := fun q => own (ow_nx (fun q => if ow q = 5 then 0 else ow q) g.1 3) 3 q ∧ q < g1.1) (R' := bl_rep (own W 0) g3) (fun q a b => ⟨a, b⟩) (fun b x _ hx => by
      have hx1 := bl_mono (P' := fun q => own (ow_nx (fun q => if ow q = 5 then 0 else ow q) g.1 3) 0 q ∧ q < g.1) (fun q a b => ⟨a, b⟩) hx
      refine bl_mono (P' := own W 0) (fun q a _ => (lab q (by omega)).trans a.1) (bl_ext (g' := g3) hg3 (fun q a b => ?_) hx1)
      have a0 : ow_nx (fun q => if ow q = 5 then 0 else ow q) g.1 3 q = 0 := a.1
      exact (up q (fun e => by have := ok1 q (by omega); omega)).trans ((hc2 q (by omega)).trans (hq1 q (by omega)))) k2
    exact al_rep_mono (P' := own W 3) (fun q a _ => (lab q a.2).trans a.1) (fun _ _ _ h => h) (al_rep_ext (g' := g3) (by omega) (fun q a b => (up q (fun e => by have a0 : ow_nx (fun q => if ow q = 5 then 0 else ow q) g.1 3 q = 3 := a.1; have := ok1 q (by omega); omega)).trans (hc2 q b)) k2a)
  · intro q hq hl
    have hq5 : ow q ≠ 5 := by omega
    refine ⟨(if_neg (by omega)).trans ((if_neg (by omega)).trans (hw q hq hq5)), (up q (fun e => by have := o1 q (by omega); omega)).trans ((hc2 q (by omega)).trans (hq1 q (by rw [hw q hq hq5]; omega)))⟩
end CLO
