/-! ### The reference's cells stay as they are: nothing that the class holds points at them -/
def fr_ok (b : Nat) (r : Option Nat) : Prop := ∀ q, r = some q → q < b ∨ b + 21 < q
def fr_v (b : Nat) (v : Value) : Prop := ∀ q, v = .ref q → q < b ∨ b + 21 < q
def fr_C (b : Nat) (c : ag_C) : Prop := match c with
  | .inl (_, _, .inr (.inr (.inr (.inr f)))) => ∀ j, fr_ok b (f j)
  | .inl _ => True
  | .inr (_, fs) => ∀ v ∈ fs, fr_v b v
def fr_H (b : Nat) (h0 h : ag_H) : Prop := (2 ≤ b ∧ b + 21 < h.1) ∧ (∀ q, b ≤ q → q ≤ b + 21 → h.2.2 q = h0.2.2 q) ∧ ∀ q, q < h.1 → (q < b ∨ b + 21 < q) → fr_C b (h.2.2 q)
section FRM
variable {b : Nat} {h0 h h' : ag_H}
theorem fr_none : fr_ok b none := fun q e => by cases e
theorem fr_one (hF : fr_H b h0 h) : fr_ok b (some 1) := fun q e => by cases e; exact Or.inl (by have := hF.1; omega)
theorem fr_new (hF : fr_H b h0 h) : fr_ok b (some h.1) := fun q e => by cases e; exact Or.inr hF.1.2
theorem fr_vi {x : Int32} : fr_v b (.int x) := fun q e => by cases e
theorem fr_vl {x : Int64} : fr_v b (.long x) := fun q e => by cases e
theorem fr_vr {r : Option Nat} (h : fr_ok b r) : fr_v b (ag_rf r) := by
  cases r with
  | none => exact fun q e => by cases e
  | some a => exact fun q e => by cases e; exact h _ rfl
theorem fr_up {q : Nat} {c : ag_C} (hF : fr_H b h0 h) (hq : q < b ∨ b + 21 < q) (hc : fr_C b c) : fr_H b h0 (ag_up h q c) := by
  refine ⟨hF.1, fun x h1 h2 => ?_, fun x h1 h2 => ?_⟩
  · show (if x = q then c else h.2.2 x) = _
    rw [if_neg (by omega)]
    exact hF.2.1 x h1 h2
  · show fr_C b (if x = q then c else h.2.2 x)
    by_cases e : x = q
    · rw [if_pos e]; exact hc
    · rw [if_neg e]; exact hF.2.2 x h1 h2
theorem fr_nw {n : Nat} {c : ag_C} (hF : fr_H b h0 h) (hc : fr_C b c) : fr_H b h0 (ag_nw h n c) := by
  have h9 := hF.1
  refine ⟨⟨h9.1, show b + 21 < h.1 + 1 by omega⟩, fun x h1 h2 => ?_, fun x h1 h2 => ?_⟩
  · show (if x = h.1 then c else h.2.2 x) = _
    rw [if_neg (by omega)]
    exact hF.2.1 x h1 h2
  · show fr_C b (if x = h.1 then c else h.2.2 x)
    by_cases e : x = h.1
    · rw [if_pos e]; exact hc
    · rw [if_neg e]
      have h1' : x < h.1 + 1 := h1
      exact hF.2.2 x (by omega) h2
theorem fr_at {q : Nat} {c : ag_C} (hF : fr_H b h0 h) (hq : q < b ∨ b + 21 < q) (e : ag_at h (.ref q) = some c) : fr_C b c := by
  obtain ⟨-, h3, rfl⟩ := pu_inv e
  exact hF.2.2 q h3 hq
theorem fr_gr {r w : Option Nat} {ci k : Nat} (hF : fr_H b h0 h) (hr : fr_ok b r) (e : ag_gr h r ci k = some w) : fr_ok b w := by
  obtain ⟨j, fs, e1, -, e3, e4⟩ := ag_gf_some (ag_gr_ok e)
  cases r with
  | none => cases e1
  | some a =>
    cases e1
    have hq := hr _ rfl
    have h3 : j + 2 < h.1 := by
      obtain ⟨j', fs', e1', e2', -⟩ := ag_gf_some (ag_gr_ok e)
      cases e1'
      exact e2'
    have hc := hF.2.2 (j + 2) h3 hq
    rw [e3] at hc
    have hv := hc _ (List.mem_of_getElem? e4)
    intro q hw
    subst hw
    exact hv q rfl
theorem fr_rc {r : Option Nat} {ci a : Nat} (hr : fr_ok b r) (e : ag_rc h r ci = some a) : fr_ok b (some a) := by
  obtain ⟨rfl, -⟩ := ag_rc_ok e
  exact hr
theorem fr_pf {r : Option Nat} {ci k : Nat} {ty : FieldType} {w : Value} (hF : fr_H b h0 h) (hr : fr_ok b r) (hw : fr_v b w) (e : ag_pf h (ag_rf r) ci k ty w = some h') : fr_H b h0 h' := by
  obtain ⟨j, fs, e1, e2, e3, -, -, -, rfl⟩ := ag_pf_some e
  cases r with
  | none => cases e1
  | some a =>
    cases e1
    have hq := hr _ rfl
    have hc := hF.2.2 (j + 2) e2 hq
    rw [e3] at hc
    refine fr_up hF hq (fun v hv => ?_)
    rcases List.mem_or_eq_of_mem_set hv with h1 | h1
    · exact hc v h1
    · rw [h1]; exact hw
theorem fr_ia {r : Option Nat} {t t' n : Nat} {p : Nat × (Nat → Int32)} {f : Nat → Int32} (hF : fr_H b h0 h) (hr : fr_ok b r) (e : ag_ai h t r = some p) : fr_H b h0 (ag_up h (r.getD 0) (.inl (t', n, .inl f))) := by
  obtain ⟨a, rfl, -⟩ := ag_ai_ok e
  exact fr_up hF (hr _ rfl) trivial
theorem fr_ao {r : Option Nat} {p : Nat × (Nat → Option Nat)} (hF : fr_H b h0 h) (hr : fr_ok b r) (e : ag_ao h r = some p) (i : Nat) : fr_ok b (p.2 i) := by
  obtain ⟨a, t, rfl, -, e2⟩ := ag_ao_ok e
  exact fr_at hF (hr _ rfl) e2 i
theorem fr_as {r w : Option Nat} {i : Int32} (hF : fr_H b h0 h) (hr : fr_ok b r) (hw : fr_ok b w) (e : ag_as h r i w = some h') : fr_H b h0 h' := by
  obtain ⟨a, t, n, f, rfl, -, -, e2, rfl, -⟩ := ag_as_ok e
  refine fr_up hF (hr _ rfl) (fun j => ?_)
  show fr_ok b (if j = i.toNatClampNeg then w else f j)
  by_cases e3 : j = i.toNatClampNeg
  · rw [if_pos e3]; exact hw
  · rw [if_neg e3]; exact fr_at hF (hr _ rfl) e2 j
theorem fr_asi {r w : Option Nat} {i : Int32} (hF : fr_H b h0 h) (hr : fr_ok b r) (hw : fr_ok b w) (e : ag_asi h r i w = some h') : fr_H b h0 h' := by
  obtain ⟨a, c, n, f, x, rfl, rfl, -, e2, -, rfl⟩ := ag_asi_ok e
  refine fr_up hF (hr _ rfl) (fun j => ?_)
  show fr_ok b (if j = i.toNatClampNeg then some c else f j)
  by_cases e3 : j = i.toNatClampNeg
  · rw [if_pos e3]; exact hw
  · rw [if_neg e3]; exact fr_at hF (hr _ rfl) e2 j
theorem fr_cpi {r0 r : Option Nat} {sp dp n : Int32} (hF : fr_H b h0 h) (hr : fr_ok b r) (e : ag_cpi h r0 sp r dp n = some h') : fr_H b h0 h' := by
  obtain ⟨a0, a, n0, n1, f, g, rfl, rfl, -, -, -, rfl⟩ := ag_cpi_ok e
  exact fr_up hF (hr _ rfl) trivial
theorem fr_ob {ci : Nat} {fs : List Value} (h : fs.all (fun v => match v with | .ref _ => false | _ => true) = true) : fr_C b (.inr (ci, fs)) := by
  intro v hv q e
  have := List.all_eq_true.mp h v hv
  subst e
  cases this
end FRM
theorem fr_mn {b : Nat} {h0 h : ag_H} {n k : Nat} (hF : fr_H b h0 h) : fr_H b h0 (ag_mn h n k) := by
  have h9 := hF.1
  refine ⟨⟨h9.1, show b + 21 < h.1 + 1 + n by omega⟩, fun x h1 h2 => ?_, fun x h1 h2 => ?_⟩
  · show (if x < h.1 then h.2.2 x else _) = _
    rw [if_pos (by omega)]
    exact hF.2.1 x h1 h2
  · show fr_C b (if x < h.1 then h.2.2 x else if x = h.1 then _ else _)
    by_cases e : x < h.1
    · rw [if_pos e]; exact hF.2.2 x e h2
    · rw [if_neg e]
      by_cases e2 : x = h.1
      · rw [if_pos e2]
        intro j q hq
        replace hq : (if j < n then some (h.1 + 1 + j) else none) = some q := hq
        by_cases e3 : j < n
        · rw [if_pos e3] at hq
          cases hq
          exact Or.inr (by omega)
        · rw [if_neg e3] at hq
          cases hq
      · rw [if_neg e2]
        exact trivial
theorem fr_if {α : Type} {c : Prop} [Decidable c] {A B : Option α} {r : α} (h : (if c then A else B) = some r) : (c ∧ A = some r) ∨ (¬ c ∧ B = some r) := by
  by_cases q : c
  · rw [if_pos q] at h; exact Or.inl ⟨q, h⟩
  · rw [if_neg q] at h; exact Or.inr ⟨q, h⟩
theorem a_Ar_copyOf {b N : Nat} {C : Nat × Nat} {h0 : ag_H} {p0 : Option Nat} {p1 : Int32} {h : ag_H} {res : (Option Nat) × ag_H} (hyp : fn_Ar_copyOf N C p0 p1 h = some res) (hF : fr_H b h0 h) (hp0 : fr_ok b p0) : fr_H b h0 res.2 ∧ fr_ok b res.1 := by
  unfold fn_Ar_copyOf at hyp
  split at hyp
  · next t n0 f e1 =>
    split at hyp
    · obtain ⟨a0, rfl, ha⟩ := ag_at_rf e1
      cases hyp
      have hc := fr_at hF (hp0 _ rfl) ha
      refine ⟨fr_nw hF ?_, fr_new hF⟩
      intro j
      unfold va_cpy
      split
      · exact hc _
      · exact fr_none
    · cases hyp
  · cases hyp
