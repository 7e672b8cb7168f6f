/-! ### What the class's heap stands for -/
def lk_rep (P : Nat → Prop) (g : ag_H) (a : Nat) (l : w_K) : Prop := P a ∧ 2 ≤ a ∧ a < g.1 ∧ g.2.2 a = .inr (9, [.int l.1, .int l.2.1, .int l.2.2.1, .int l.2.2.2.1, .int l.2.2.2.2])
def tk_rep (P : Nat → Prop) (g : ag_H) (a : Nat) (T : w_T) : Prop := P a ∧ 2 ≤ a ∧ a < g.1 ∧ ∃ l, g.2.2 a = .inr (8, [.ref l, .int (j_b T.2.1), .int T.2.2.1, .int T.2.2.2]) ∧ al_rep P (lk_rep P g) g l T.1
def bl_rep (P : Nat → Prop) (g : ag_H) (b : Nat) (L : List g_Cl) : Prop := P b ∧ 2 ≤ b ∧ b < g.1 ∧ ∃ l, g.2.2 b = .inr (5, [.ref l]) ∧ al_rep P (cl_rep P g) g l L
section EXT
variable {P P' : Nat → Prop} {g g' : ag_H}
theorem lk_ext (hn : g.1 ≤ g'.1) (hq : ∀ q, P q → q < g.1 → g'.2.2 q = g.2.2 q) {a : Nat} {l : w_K} (r : lk_rep P g a l) : lk_rep P g' a l := ⟨r.1, r.2.1, Nat.lt_of_lt_of_le r.2.2.1 hn, (hq a r.1 r.2.2.1).trans r.2.2.2⟩
theorem tk_ext (hn : g.1 ≤ g'.1) (hq : ∀ q, P q → q < g.1 → g'.2.2 q = g.2.2 q) {a : Nat} {T : w_T} (r : tk_rep P g a T) : tk_rep P g' a T := by
  obtain ⟨h1, h2, h3, l, h4, h5⟩ := r
  exact ⟨h1, h2, Nat.lt_of_lt_of_le h3 hn, l, (hq a h1 h3).trans h4, al_rep_mono (fun _ h _ => h) (fun _ _ _ h => lk_ext hn hq h) (al_rep_ext hn hq h5)⟩
theorem bl_ext (hn : g.1 ≤ g'.1) (hq : ∀ q, P q → q < g.1 → g'.2.2 q = g.2.2 q) {b : Nat} {L : List g_Cl} (r : bl_rep P g b L) : bl_rep P g' b L := by
  obtain ⟨h1, h2, h3, l, h4, h5⟩ := r
  exact ⟨h1, h2, Nat.lt_of_lt_of_le h3 hn, l, (hq b h1 h3).trans h4, al_rep_mono (fun _ h _ => h) (fun _ _ _ h => cl_ext hn hq h) (al_rep_ext hn hq h5)⟩
theorem at_mono (hP : ∀ q, P q → q < g.1 → P' q) {b : Nat} {x : g_A} (r : at_rep P g b x) : at_rep P' g b x := ⟨hP _ r.1 r.2.2.1, r.2⟩
theorem cl_mono (hP : ∀ q, P q → q < g.1 → P' q) {a : Nat} {x : g_Cl} (e : cl_rep P g a x) : cl_rep P' g a x := by
  obtain ⟨h1, h2, h3, r, bl, sa, sv, e1, e2, e3, e4, e5, e6, e7, e8⟩ := e
  refine ⟨hP _ h1 h3, h2, h3, r, bl, sa, sv, e1, ?_, al_rep_mono hP (fun _ _ _ h => at_mono hP h) e3, hP _ e4 e6, e5, e6, e7, e8⟩
  unfold hd_rep at e2 ⊢
  split at e2
  · exact e2
  · obtain ⟨b, hb, hb2⟩ := e2
    exact ⟨b, hb, at_mono hP hb2⟩
theorem lk_mono (hP : ∀ q, P q → q < g.1 → P' q) {a : Nat} {l : w_K} (r : lk_rep P g a l) : lk_rep P' g a l := ⟨hP _ r.1 r.2.2.1, r.2⟩
theorem tk_mono (hP : ∀ q, P q → q < g.1 → P' q) {a : Nat} {T : w_T} (r : tk_rep P g a T) : tk_rep P' g a T := by
  obtain ⟨h1, h2, h3, l, h4, h5⟩ := r
  exact ⟨hP _ h1 h3, h2, h3, l, h4, al_rep_mono hP (fun _ _ _ h => lk_mono hP h) h5⟩
theorem bl_mono (hP : ∀ q, P q → q < g.1 → P' q) {b : Nat} {L : List g_Cl} (r : bl_rep P g b L) : bl_rep P' g b L := by
  obtain ⟨h1, h2, h3, l, h4, h5⟩ := r
  exact ⟨hP _ h1 h3, h2, h3, l, h4, al_rep_mono hP (fun _ _ _ h => cl_mono hP h) h5⟩
end EXT
/-- whose a cell is: 0: never changed any more; 2: the desk's list; 3: the list of blocks; 4: of tokens; 5: of the block that is made; 1: all else -/
def own (ow : Nat → Nat) (k q : Nat) : Prop := ow q = k
def cO (ow : Nat → Nat) (g : ag_H) (mk : Nat) (M : List g_Cl) (Bs : List (List g_Cl)) (D : List g_Cl) (Ts : List w_T) : Prop :=
  (∀ q, ow q ≠ 1 → (46 ≤ q ∧ q < 52) ∨ 75 ≤ q) ∧ (ow 46 = 0 ∧ g.2.2 46 = .inr (5, [.ref 47])) ∧ al_rep (own ow 2) (cl_rep (own ow 0) g) g 47 D ∧ al_rep (own ow 3) (bl_rep (own ow 0) g) g 48 Bs ∧ al_rep (own ow 4) (tk_rep (own ow 0) g) g 49 Ts ∧ (ow mk = 0 ∧ 2 ≤ mk ∧ mk < g.1 ∧ ∃ lm, g.2.2 mk = .inr (5, [.ref lm]) ∧ al_rep (own ow 5) (cl_rep (own ow 0) g) g lm M)
def cL (g : ag_H) (lc : Nat → Nat) (ln : Nat) : Prop := ∃ (p : Int32) (f : Nat → Int32), g.2.2 3 = .inr (1, [.ref 4, .int (Int32.ofNat ln), .int p]) ∧ g.2.2 4 = .inl (1, 40, .inl f) ∧ ∀ i, i < ln → f i = Int32.ofNat (lc i)
def cR (g : ag_H) : Prop := ∃ (k nv bv : Int32) (st : Nat → Int32), g.2.2 5 = .inr (2, [.ref 6, .int k, .int nv, .int bv]) ∧ g.2.2 6 = .inl (0, 40, .inl st)
def cG (g : ag_H) (mk K most more : Nat) : Prop := g.2.2 2 = .inr (0, [.ref 3, .ref 5, .ref 7, .ref 46, .ref 48, .ref 49, .ref mk, .int (Int32.ofNat K), .int (Int32.ofNat most), .int (Int32.ofNat more)])
def cN (g : ag_H) : Prop := g.2.2 41 = .inr (5, [.ref 42]) ∧ (∃ md, g.2.2 42 = .inr (11, [.ref 1, .int (Int32.ofNat 0), .int md])) ∧ ∃ pv, g.2.2 43 = .inl (5, 5, .inr (.inr (.inr (.inr pv))))
def cJ (g : ag_H) (re : Int32) (rd : Nat) (un : Int32) (Gs : List j_R) : Prop := ∃ (kn rf tr he mi fa ov room : Int32) (rv : Nat → Option Nat) (rw : Nat → Nat → Int32) (va sk : Nat → Int32) (ra : Nat → Nat),
  (g.2.2 7 = .inr (3, [.ref 8, .ref 41, .ref 43, .int re, .int (Int32.ofNat rd), .int un, .ref 44, .ref 45, .int kn, .int rf, .int tr, .int he, .int mi, .int fa]) ∧ g.2.2 8 = .inr (4, [.ref 9, .int (Int32.ofNat Gs.length), .int ov, .int room]) ∧ g.2.2 9 = .inl (6, 31, .inr (.inr (.inr (.inr rv)))) ∧ g.2.2 44 = .inl (0, 8, .inl va) ∧ g.2.2 45 = .inl (0, 40, .inl sk) ∧ ∀ q, 10 ≤ q ∧ q ≤ 40 → g.2.2 q = .inl (0, 5, .inl (rw q))) ∧ ra_ok rv ra ∧ fa_rep rw ra Gs
def cI (ow : Nat → Nat) (g : ag_H) (lc : Nat → Nat) (ln : Nat) (M : List g_Cl) (Bs : List (List g_Cl)) (D : List g_Cl) (Ts : List w_T) (K most more : Nat) (re : Int32) (rd : Nat) (un : Int32) (Gs : List j_R) : Prop :=
  75 ≤ g.1 ∧ cL g lc ln ∧ cR g ∧ cJ g re rd un Gs ∧ cN g ∧ ∃ mk, cG g mk K most more ∧ cO ow g mk M Bs D Ts
section CEX
variable {ow : Nat → Nat} {g g' : ag_H} {mk : Nat} {M : List g_Cl} {Bs : List (List g_Cl)} {D : List g_Cl} {Ts : List w_T}
theorem cO_ext (hn : g.1 ≤ g'.1) (hq : ∀ q, ow q ≠ 1 → q < g.1 → g'.2.2 q = g.2.2 q) (hg : 75 ≤ g.1) (r : cO ow g mk M Bs D Ts) : cO ow g' mk M Bs D Ts := by
  obtain ⟨h1, ⟨h2, h3⟩, h4, h5, h6, h7, h8, h9, lm, h10, h11⟩ := r
  have q0 : ∀ q, own ow 0 q → q < g.1 → g'.2.2 q = g.2.2 q := fun q h => hq q (fun e => by have h : ow q = 0 := h; omega)
  have q2 : ∀ q, own ow 2 q → q < g.1 → g'.2.2 q = g.2.2 q := fun q h => hq q (fun e => by have h : ow q = 2 := h; omega)
  have q3 : ∀ q, own ow 3 q → q < g.1 → g'.2.2 q = g.2.2 q := fun q h => hq q (fun e => by have h : ow q = 3 := h; omega)
  have q4 : ∀ q, own ow 4 q → q < g.1 → g'.2.2 q = g.2.2 q := fun q h => hq q (fun e => by have h : ow q = 4 := h; omega)
  have q5 : ∀ q, own ow 5 q → q < g.1 → g'.2.2 q = g.2.2 q := fun q h => hq q (fun e => by have h : ow q = 5 := h; omega)
  exact ⟨h1, ⟨h2, (q0 46 h2 (by omega)).trans h3⟩, al_rep_mono (fun _ h _ => h) (fun _ _ _ h => cl_ext hn q0 h) (al_rep_ext hn q2 h4), al_rep_mono (fun _ h _ => h) (fun _ _ _ h => bl_ext hn q0 h) (al_rep_ext hn q3 h5), al_rep_mono (fun _ h _ => h) (fun _ _ _ h => tk_ext hn q0 h) (al_rep_ext hn q4 h6), h7, h8, Nat.lt_of_lt_of_le h9 hn, lm, (q0 mk h7 h9).trans h10, al_rep_mono (fun _ h _ => h) (fun _ _ _ h => cl_ext hn q0 h) (al_rep_ext hn q5 h11)⟩
/-- labels below the first free cell count alone -/
theorem cO_ow {ow' : Nat → Nat} (hw : ∀ q, q < g.1 → ow' q = ow q) (h1 : ∀ q, ow' q ≠ 1 → (46 ≤ q ∧ q < 52) ∨ 75 ≤ q) (hg : 75 ≤ g.1) (r : cO ow g mk M Bs D Ts) : cO ow' g mk M Bs D Ts := by
  obtain ⟨_, ⟨h2, h3⟩, h4, h5, h6, h7, h8, h9, lm, h10, h11⟩ := r
  have m : ∀ k q, own ow k q → q < g.1 → own ow' k q := fun k q h hq => by show ow' q = k; rw [hw q hq]; exact h
  exact ⟨h1, ⟨(hw 46 (by omega)).trans h2, h3⟩, al_rep_mono (m 2) (fun _ _ _ h => cl_mono (m 0) h) h4, al_rep_mono (m 3) (fun _ _ _ h => bl_mono (m 0) h) h5, al_rep_mono (m 4) (fun _ _ _ h => tk_mono (m 0) h) h6, (hw mk h9).trans h7, h8, h9, lm, h10, al_rep_mono (m 5) (fun _ _ _ h => cl_mono (m 0) h) h11⟩
end CEX
theorem cl_cls {P : Nat → Prop} {g : ag_H} {a : Nat} {x : g_Cl} (r : cl_rep P g a x) : ∃ ci fs, ag_at g (.ref a) = some (.inr (ci, fs)) ∧ ci ≤ 10 := by
  obtain ⟨h1, h2, h3, r, bl, sa, sv, e1, _⟩ := r
  exact ⟨7, _, pu_at h2 h3 e1, by decide⟩
theorem bl_cls {P : Nat → Prop} {g : ag_H} {a : Nat} {x : List g_Cl} (r : bl_rep P g a x) : ∃ ci fs, ag_at g (.ref a) = some (.inr (ci, fs)) ∧ ci ≤ 10 := by
  obtain ⟨h1, h2, h3, l, e1, _⟩ := r
  exact ⟨5, _, pu_at h2 h3 e1, by decide⟩
theorem tk_cls {P : Nat → Prop} {g : ag_H} {a : Nat} {x : w_T} (r : tk_rep P g a x) : ∃ ci fs, ag_at g (.ref a) = some (.inr (ci, fs)) ∧ ci ≤ 10 := by
  obtain ⟨h1, h2, h3, l, e1, _⟩ := r
  exact ⟨8, _, pu_at h2 h3 e1, by decide⟩
theorem lk_cls {P : Nat → Prop} {g : ag_H} {a : Nat} {x : w_K} (r : lk_rep P g a x) : ∃ ci fs, ag_at g (.ref a) = some (.inr (ci, fs)) ∧ ci ≤ 10 := by
  obtain ⟨h1, h2, h3, e1⟩ := r
  exact ⟨9, _, pu_at h2 h3 e1, by decide⟩
