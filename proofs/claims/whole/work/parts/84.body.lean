/-! ### Lists of things in the pure heap; a clause's body -/
def al_rep {α : Type} (P : Nat → Prop) (R : Nat → α → Prop) (g : ag_H) (l : Nat) (xs : List α) : Prop :=
  P l ∧ 2 ≤ l ∧ l < g.1 ∧ ∃ md : Int32, (xs = [] ∧ g.2.2 l = .inr (11, [.ref 1, .int (Int32.ofNat 0), .int md])) ∨
    ∃ (e n0 : Nat) (v : Nat → Option Nat), P e ∧ 2 ≤ e ∧ e < g.1 ∧ g.2.2 l = .inr (11, [.ref e, .int (Int32.ofNat xs.length), .int md]) ∧ g.2.2 e = .inl (4, n0, .inr (.inr (.inr (.inr v)))) ∧ xs.length ≤ n0 ∧ 10 ≤ n0 ∧ n0 < 1000 ∧ ∀ i x, xs[i]? = some x → ∃ b, v i = some b ∧ R b x
theorem al_rep_ext {α : Type} {P : Nat → Prop} {R : Nat → α → Prop} {g g' : ag_H} {l : Nat} {xs : List α} (hn : g.1 ≤ g'.1) (hq : ∀ q, P q → q < g.1 → g'.2.2 q = g.2.2 q) (r : al_rep P R g l xs) : al_rep P R g' l xs := by
  obtain ⟨h1, h2, h3, md, h4⟩ := r
  refine ⟨h1, h2, by omega, md, ?_⟩
  rcases h4 with ⟨h5, h6⟩ | ⟨e, n0, v, e1, e2, e3, e4, e5, e6⟩
  · exact Or.inl ⟨h5, (hq l h1 h3).trans h6⟩
  · exact Or.inr ⟨e, n0, v, e1, e2, by omega, (hq l h1 h3).trans e4, (hq e e1 e3).trans e5, e6⟩
theorem al_rep_mono {α : Type} {P P' : Nat → Prop} {R R' : Nat → α → Prop} {g : ag_H} {l : Nat} {xs : List α} (hP : ∀ q, P q → q < g.1 → P' q) (hR : ∀ b x, x ∈ xs → R b x → R' b x) (r : al_rep P R g l xs) : al_rep P' R' g l xs := by
  obtain ⟨h1, h2, h3, md, h4⟩ := r
  refine ⟨hP l h1 h3, h2, h3, md, ?_⟩
  rcases h4 with ⟨h5, h6⟩ | ⟨e, n0, v, e1, e2, e3, e4, e5, e6, e7, e8, e9⟩
  · exact Or.inl ⟨h5, h6⟩
  · exact Or.inr ⟨e, n0, v, hP e e1 e3, e2, e3, e4, e5, e6, e7, e8, fun i x hx => by
      obtain ⟨b, hb1, hb2⟩ := e9 i x hx
      exact ⟨b, hb1, hR b x (List.mem_of_getElem? hx) hb2⟩⟩
theorem al_rep_size {α : Type} {N : Nat} {C : Nat × Nat} {P : Nat → Prop} {R : Nat → α → Prop} {g : ag_H} {l : Nat} {xs : List α} (r : al_rep P R g l xs) : fn_AL_size N C l g = some (Int32.ofNat xs.length, g) := by
  obtain ⟨h1, h2, h3, md, h4⟩ := r
  rcases h4 with ⟨h5, h6⟩ | ⟨e, n0, v, e1, e2, e3, e4, e5, e6⟩
  · subst h5; exact al_size (pu_at h2 h3 h6)
  · exact al_size (pu_at h2 h3 e4)
theorem al_rep_rc {α : Type} {P : Nat → Prop} {R : Nat → α → Prop} {g : ag_H} {l : Nat} {xs : List α} (r : al_rep P R g l xs) : ag_rc g (some l) 11 = some l := by
  obtain ⟨h1, h2, h3, md, h4⟩ := r
  rcases h4 with ⟨h5, h6⟩ | ⟨e, n0, v, e1, e2, e3, e4, e5, e6⟩
  · exact pu_rc (pu_at h2 h3 h6)
  · exact pu_rc (pu_at h2 h3 e4)
theorem al_rep_get {α : Type} {N : Nat} {C : Nat × Nat} {P : Nat → Prop} {R : Nat → α → Prop} {g : ag_H} {l i : Nat} {xs : List α} {x : α} (r : al_rep P R g l xs) (hx : xs[i]? = some x) : ∃ b, fn_AL_get N C l (Int32.ofNat i) g = some (some b, g) ∧ R b x := by
  have hi : i < xs.length := (List.getElem?_eq_some_iff.mp hx).1
  obtain ⟨h1, h2, h3, md, h4⟩ := r
  rcases h4 with ⟨h5, h6⟩ | ⟨e, n0, v, e1, e2, e3, e4, e5, e6, e7, e8, e9⟩
  · subst h5; cases hx
  · obtain ⟨b, hb1, hb2⟩ := e9 i x hx
    exact ⟨b, by rw [al_get (pu_at h2 h3 e4) (pu_at e2 e3 e5) hi e6 (by omega), hb1], hb2⟩
theorem al_push {α : Type} {N : Nat} {C : Nat × Nat} {P : Nat → Prop} {R : Nat → α → Prop} {g : ag_H} {l b ci : Nat} {fs : List Value} {xs : List α} {x : α} (r : al_rep P R g l xs) (hl : xs.length < 10) (hR : R b x) (hb : ag_at g (.ref b) = some (.inr (ci, fs))) (hc : ci ≤ 10) (hC1 : g.1 + 1 ≤ C.1) (hC2 : g.2.1 + 10 ≤ C.2) (hP : P g.1) :
    ∃ g', fn_AL_add N C l (some b) g = some (Int32.ofInt 1, g') ∧ al_rep P R g' l (xs ++ [x]) ∧ g.1 ≤ g'.1 ∧ g'.1 ≤ g.1 + 1 ∧ g.2.1 ≤ g'.2.1 ∧ g'.2.1 ≤ g.2.1 + 10 ∧ (∀ q, ¬ P q → g'.2.2 q = g.2.2 q) ∧ (∀ q, q < g.1 → (∀ y, g.2.2 q ≠ .inr (11, y)) → (∀ y, g.2.2 q ≠ .inl (4, y)) → g'.2.2 q = g.2.2 q) := by
  obtain ⟨h1, h2, h3, md, h4⟩ := r
  rcases h4 with ⟨h5, h6⟩ | ⟨e, n0, v, e1, e2, e3, e4, e5, e6, e7, e8, e9⟩
  · subst h5
    obtain ⟨g', k1, k2, k3, k4, k5, k6⟩ := al_add0 (N := N) (C := C) (pu_at h2 h3 h6) hb hc hC1 hC2
    refine ⟨g', k1, ⟨h1, h2, by omega, _, Or.inr ⟨g.1, 10, _, hP, by omega, by omega, k4, k5, by simp, by omega, by omega, ?_⟩⟩, by omega, by omega, by omega, by omega, ?_, ?_⟩
    · intro i y hy
      have : i = 0 := by
        have := (List.getElem?_eq_some_iff.mp hy).1
        simp only [List.nil_append, List.length_cons, List.length_nil] at this
        omega
      subst this
      cases hy
      exact ⟨b, rfl, hR⟩
    · intro q hq
      exact k6 q (fun w => hq (w ▸ h1)) (fun w => hq (w ▸ hP))
    · intro q hq n1 n2
      exact k6 q (fun w => n1 _ (w ▸ h6)) (by omega)
  · obtain ⟨g', k1, k2, k3, k4, k5, k6⟩ := al_add1 (N := N) (C := C) (pu_at h2 h3 e4) (pu_at e2 e3 e5) (by omega) (by omega) hb hc
    have hle : g'.2.2 l = .inr (11, [.ref e, .int (Int32.ofNat (xs ++ [x]).length), .int (md + Int32.ofInt 1)]) := by
      rw [k4, List.length_append]; rfl
    refine ⟨g', k1, ⟨h1, h2, by omega, _, Or.inr ⟨e, n0, _, e1, e2, by omega, hle, k5, by rw [List.length_append]; simp only [List.length_cons, List.length_nil]; omega, e7, e8, ?_⟩⟩, by omega, by omega, by omega, by omega, ?_, ?_⟩
    · intro i y hy
      show ∃ b', (if i = xs.length then some b else v i) = some b' ∧ _
      by_cases hi : i = xs.length
      · subst hi
        rw [List.getElem?_append_right (Nat.le_refl _), Nat.sub_self] at hy
        cases hy
        exact ⟨b, if_pos rfl, hR⟩
      · have hlt : i < xs.length := by
          have := (List.getElem?_eq_some_iff.mp hy).1
          rw [List.length_append] at this
          simp only [List.length_cons, List.length_nil] at this
          omega
        rw [List.getElem?_append_left hlt] at hy
        obtain ⟨b', hb1, hb2⟩ := e9 i y hy
        exact ⟨b', by rw [if_neg hi, hb1], hb2⟩
    · intro q hq
      exact k6 q (fun w => hq (w ▸ h1)) (fun w => hq (w ▸ e1))
    · intro q hq n1 n2
      exact k6 q (fun w => n1 _ (w ▸ e4)) (fun w => n2 _ (w ▸ e5))
def at_rep (P : Nat → Prop) (g : ag_H) (b : Nat) (x : g_A) : Prop := P b ∧ 2 ≤ b ∧ b < g.1 ∧ g.2.2 b = at_cell x
theorem rs_of {g : ag_H} {h : ag_H} {n p k : Nat} {nv bv : Int32} {st : Nat → Int32} (h3 : g.2.2 3 = (rs h n p k nv bv st).2.2 3) (h5 : g.2.2 5 = (rs h n p k nv bv st).2.2 5) (h6 : g.2.2 6 = (rs h n p k nv bv st).2.2 6) : g = rs g n p k nv bv st := by
  refine rs_ext rfl rfl fun q => ?_
  show g.2.2 q = (if q = 3 then _ else if q = 5 then _ else if q = 6 then _ else g.2.2 q)
  by_cases e3 : q = 3
  · subst e3; rw [if_pos rfl]; exact h3
  · rw [if_neg e3]
    by_cases e5 : q = 5
    · subst e5; rw [if_pos rfl]; exact h5
    · rw [if_neg e5]
      by_cases e6 : q = 6
      · subst e6; rw [if_pos rfl]; exact h6
      · rw [if_neg e6]
theorem rs_big {h : ag_H} {n p k : Nat} {nv bv : Int32} {st : Nat → Int32} {q : Nat} (h3 : q ≠ 3) (h5 : q ≠ 5) (h6 : q ≠ 6) : (rs h n p k nv bv st).2.2 q = h.2.2 q := by
  show (if q = 3 then _ else if q = 5 then _ else if q = 6 then _ else h.2.2 q) = _
  rw [if_neg h3, if_neg h5, if_neg h6]
/-- what a stretch of reading leaves: cells below L stand, but the reader's own -/
def fr_L (L : Nat) (h h' : ag_H) (a b : Nat) : Prop := h.1 ≤ h'.1 ∧ h'.1 ≤ h.1 + a ∧ h.2.1 ≤ h'.2.1 ∧ h'.2.1 ≤ h.2.1 + b ∧ ∀ q, q < L → q ≠ 3 → q ≠ 5 → q ≠ 6 → h'.2.2 q = h.2.2 q
theorem fr_L0 (L : Nat) (h : ag_H) (a b : Nat) : fr_L L h h a b := ⟨Nat.le_refl _, Nat.le_add_right _ _, Nat.le_refl _, Nat.le_add_right _ _, fun _ _ _ _ _ => rfl⟩
theorem fr_Lt {L : Nat} {h h' h'' : ag_H} {a b a' b' : Nat} (x : fr_L L h h' a b) (y : fr_L L h' h'' a' b') : fr_L L h h'' (a + a') (b + b') := by
  obtain ⟨x1, x2, x3, x4, x5⟩ := x
  obtain ⟨y1, y2, y3, y4, y5⟩ := y
  exact ⟨by omega, by omega, by omega, by omega, fun q q1 q3 q5 q6 => (y5 q q1 q3 q5 q6).trans (x5 q q1 q3 q5 q6)⟩
theorem fr_Lw {L : Nat} {h h' : ag_H} {a b a' b' : Nat} (x : fr_L L h h' a b) (ha : a ≤ a') (hb : b ≤ b') : fr_L L h h' a' b' := by
  obtain ⟨x1, x2, x3, x4, x5⟩ := x
  exact ⟨by omega, by omega, by omega, by omega, x5⟩
theorem fr_Lok {L : Nat} {h h' : ag_H} {a b n : Nat} {c : Nat → Nat} {f : Nat → Int32} (x : fr_L L h h' a b) (hL : 75 ≤ L) (o : rs_ok c f n h) : rs_ok c f n h' := by
  obtain ⟨o1, o2, o3, o4⟩ := o
  exact ⟨by have := x.1; omega, o2, (x.2.2.2.2 4 (by omega) (by decide) (by decide) (by decide)).trans o3, o4⟩
theorem fr_Lnw {L : Nat} {h : ag_H} {m : Nat} {y : ag_C} (hL : L ≤ h.1) : fr_L L h (ag_nw h m y) 1 m := ⟨Nat.le_succ _, Nat.le_refl _, Nat.le_add_right _ _, Nat.le_refl _, fun q q1 _ _ _ => if_neg (by omega)⟩
section BD
variable {N : Nat} {C : Nat × Nat} {n : Nat} {c : Nat → Nat} {f : Nat → Int32} {m : Int32} {L bl : Nat}
theorem c_bd73 {h : ag_H} {p : Nat} {bv : Int32} {st : Nat → Int32} (o : rs_ok c f n h) (hN : 42 ≤ N) (hp : p ≤ n) : xs_sp n h bv (g_cms c n 2 p [] m) (fn_Rd_readBody_73 N C 5 (some 3) (rs h n p 0 m bv st)) := by
  unfold fn_Rd_readBody_73
  rw [n_0]
  exact c_cms o hN 2 N 0 p [] m st (by omega) (by omega) hp (Nat.zero_le _) (fun i x e => by cases e)
theorem c_body (hN : 42 ≤ N) (hL : 75 ≤ L) : ∀ (e d i p : Nat) (as : List g_A) (bv : Int32) (h : ag_H) (st : Nat → Int32), rs_ok c f n h → L ≤ h.1 → i + e = 3 → as.length = i → e + 1 ≤ d → p ≤ n → h.1 + 2 * e ≤ C.1 → h.2.1 + 14 * e ≤ C.2 → al_rep (L ≤ ·) (at_rep (L ≤ ·) h) h bl as →
    match g_bd c n m e p as bv with
    | some r => ∃ h' st', fn_Rd_readBody_2 N C 5 d (some 3) (some bl) (Int32.ofNat i) (rs h n p 0 m bv st) = some (Int32.ofInt 1, rs h' n r.2.1 r.2.2.1.length r.2.2.2 r.1.2 st') ∧ st_rep st' r.2.2.1 ∧ al_rep (L ≤ ·) (at_rep (L ≤ ·) h') h' bl r.1.1 ∧ fr_L L h h' (2 * e) (14 * e)
    | none => ∃ h' p' k' nv' bv' st', p' ≤ n ∧ fn_Rd_readBody_2 N C 5 d (some 3) (some bl) (Int32.ofNat i) (rs h n p 0 m bv st) = some (Int32.ofInt 0, rs h' n p' k' nv' bv' st') ∧ fr_L L h h' (2 * e) (14 * e)
  | e, 0, i, p, as, bv, h, st, o, hLh, hi, ha, hd, hp, hC1, hC2, hr => absurd hd (by omega)
  | 0, d + 1, i, p, as, bv, h, st, o, hLh, hi, ha, hd, hp, hC1, hC2, hr => by
    rw [fe_Rd_readBody_2, n_3, if_pos (n_leT (by omega) (by omega))]
    unfold g_bd
    have k1 := c_bd73 (C := C) (m := m) (bv := bv) (st := st) o hN hp
    cases e1 : g_cms c n 2 p [] m with
    | none =>
      rw [e1] at k1
      obtain ⟨p', k', nv', st', hp', k1⟩ := k1
      exact ⟨h, p', k', nv', bv, st', hp', k1, fr_L0 _ _ _ _⟩
    | some r =>
      rw [e1] at k1
      obtain ⟨st', k1, hr'⟩ := k1
      exact ⟨h, st', k1, hr', hr, fr_L0 _ _ _ _⟩
  | e + 1, d + 1, i, p, as, bv, h, st, o, hLh, hi, ha, hd, hp, hC1, hC2, hr => by
    rw [fe_Rd_readBody_2, n_3, if_neg (n_leF (by omega) (by omega))]
    unfold g_bd
    have k1 := c_atom (C := C) (k := 0) (nv := m) (bv := bv) (st := st) o hN hp (by omega) (by omega)
    cases e1 : g_at c n p with
    | none =>
      rw [e1] at k1
      obtain ⟨q, hq, k1⟩ := k1
      simp only [k1, Option.bind_some, Option.bind_none, if_true]
      exact ⟨h, q, 0, m, bv, st, hq, if_pos n_b0, fr_L0 _ _ _ _⟩
    | some r =>
      rw [e1] at k1
      simp only at k1
      have hg := g_at_ok hp (show g_at c n p = some (r.1, r.2) from e1)
      have hrp : r.2 ≤ n := hg.2.1
      have o1 := rs_oknw (m := 4) (x := at_cell r.1) o
      have hs := g_s_le (c := c) hrp
      simp only [k1, Option.bind_some, if_neg (show ¬ (some h.1 = none) by simp)]
      -- the list takes it
      have hn1 : (rs (ag_nw h 4 (at_cell r.1)) n r.2 0 m bv st).1 = h.1 + 1 := rfl
      have hn2 : (rs (ag_nw h 4 (at_cell r.1)) n r.2 0 m bv st).2.1 = h.2.1 + 4 := rfl
      have hc1 : ∀ q, q ≠ 3 → q ≠ 5 → q ≠ 6 → q < h.1 → (rs (ag_nw h 4 (at_cell r.1)) n r.2 0 m bv st).2.2 q = h.2.2 q := fun q q3 q5 q6 q1 => (rs_big q3 q5 q6).trans (if_neg (by omega))
      have hcn : (rs (ag_nw h 4 (at_cell r.1)) n r.2 0 m bv st).2.2 h.1 = at_cell r.1 := (rs_big (by omega) (by omega) (by omega)).trans (if_pos rfl)
      have hr1 : al_rep (L ≤ ·) (at_rep (L ≤ ·) (rs (ag_nw h 4 (at_cell r.1)) n r.2 0 m bv st)) (rs (ag_nw h 4 (at_cell r.1)) n r.2 0 m bv st) bl as := by
        refine al_rep_mono (fun q h1 _ => h1) ?_ (al_rep_ext (by rw [hn1]; omega) (fun q h1 h2 => hc1 q (by omega) (by omega) (by omega) h2) hr)
        rintro b x - ⟨b1, b2, b3, b4⟩
        exact ⟨b1, b2, by rw [hn1]; omega, (hc1 b (by omega) (by omega) (by omega) b3).trans b4⟩
      have hat : at_rep (L ≤ ·) (rs (ag_nw h 4 (at_cell r.1)) n r.2 0 m bv st) h.1 r.1 := ⟨hLh, by omega, by rw [hn1]; omega, hcn⟩
      obtain ⟨g', q1, q2, q3, q4, q5, q6, q7, q8⟩ := al_push (N := N) (C := C) hr1 (by omega) hat (pu_at (by omega) hat.2.2.1 hcn) (by omega) (by rw [hn1]; omega) (by rw [hn2]; omega) (by rw [hn1]; omega)
      rw [al_rep_rc hr1, Option.bind_some, q1]
      have hg' : g' = rs g' n r.2 0 m bv st := rs_of (q7 3 (by omega)) (q7 5 (by omega)) (q7 6 (by omega))
      have hcells : ∀ q, q < L → q ≠ 3 → q ≠ 5 → q ≠ 6 → g'.2.2 q = h.2.2 q := fun q h1 h3 h5 h6 => (q7 q (by omega)).trans (hc1 q h3 h5 h6 (by omega))
      have hfr : fr_L L h g' 2 14 := ⟨by omega, by omega, by omega, by omega, hcells⟩
      have o2 : rs_ok c f n g' := fr_Lok hfr hL o
      have hr2 : al_rep (L ≤ ·) (at_rep (L ≤ ·) g') g' bl (as ++ [r.1]) := by
        refine al_rep_mono (fun q h1 _ => h1) ?_ q2
        rintro b x - ⟨b1, b2, b3, b4⟩
        exact ⟨b1, b2, by omega, (q8 b b3 (fun y w => by rw [b4] at w; cases w) (fun y w => by rw [b4] at w; cases w)).trans b4⟩
      have hnew : g'.2.2 h.1 = at_cell r.1 := (q8 h.1 (by rw [hn1]; omega) (fun y w => by rw [hcn] at w; cases w) (fun y w => by rw [hcn] at w; cases w)).trans hcn
      have hnew2 : ag_at (rs g' n r.2 0 m bv st) (.ref h.1) = some (at_cell r.1) := pu_at (by omega) (show h.1 < g'.1 by omega) ((rs_big (by omega) (by omega) (by omega)).trans hnew)
      have hlen : (as ++ [r.1]).length = i + 1 := by rw [List.length_append, ha]; rfl
      rw [hg']
      simp only [Option.bind_some, rs_bv o2, pu_rc (show ag_at (rs g' n r.2 0 m bv st) (.ref h.1) = some (.inr (6, _)) from hnew2)]
      rw [c_vars hnew2 (by omega) (by omega)]
      simp only [Option.bind_some, rs_pb o2, rs_rc3 o2]
      rw [n_c44, c_takes o2 hN hrp (by omega)]
      cases e2 : g_t c n r.2 44 with
      | none =>
        simp only [Option.bind_some, n_e00, if_true]
        exact ⟨g', st, if_pos n_b1, (fun i x e => by cases e), hr2, fr_Lw hfr (by omega) (by omega)⟩
      | some p2 =>
        have h2 := g_t_ok hrp (by decide) e2
        have hs2 := g_s_le (c := c) h2.2
        have hh2 := g_h_le o2 p2
        simp only [Option.bind_some, if_neg n_ne10, rs_rc3 o2, c_sign o2 hN h2.2, c_isName _ hh2]
        by_cases e3 : 97 ≤ g_h c n p2 ∧ g_h c n p2 ≤ 122
        · simp only [if_pos e3, if_neg n_ne10]
          rw [n_1, n_add]
          have ih := c_body hN hL e d (i + 1) (g_s c n p2) (as ++ [r.1]) (bv ||| g_vs r.1) g' st o2 (by omega) (by omega) hlen (by omega) hs2.2 (by omega) (by omega) hr2
          cases e4 : g_bd c n m e (g_s c n p2) (as ++ [r.1]) (bv ||| g_vs r.1) with
          | none =>
            rw [e4] at ih
            obtain ⟨h', p', k', nv', bv', st', hp', ih, fr⟩ := ih
            exact ⟨h', p', k', nv', bv', st', hp', ih, fr_Lw (fr_Lt hfr fr) (by omega) (by omega)⟩
          | some r4 =>
            rw [e4] at ih
            obtain ⟨h', st', ih, i1, i2, fr⟩ := ih
            exact ⟨h', st', ih, i1, i2, fr_Lw (fr_Lt hfr fr) (by omega) (by omega)⟩
        · simp only [if_neg e3, n_e00, if_true]
          have k2 := c_bd73 (C := C) (m := m) (bv := bv ||| g_vs r.1) (st := st) o2 hN hs2.2
          cases e4 : g_cms c n 2 (g_s c n p2) [] m with
          | none =>
            rw [e4] at k2
            obtain ⟨p', k', nv', st', hp', k2⟩ := k2
            exact ⟨g', p', k', nv', _, st', hp', k2, fr_Lw hfr (by omega) (by omega)⟩
          | some r4 =>
            rw [e4] at k2
            obtain ⟨st', k2, hr'⟩ := k2
            exact ⟨g', st', k2, hr', hr2, fr_Lw hfr (by omega) (by omega)⟩
end BD
