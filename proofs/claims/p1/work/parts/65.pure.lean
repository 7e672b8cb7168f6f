/-! ### Reading and writing the pure heap: in terms of its cells -/
theorem pu_at {h : ag_H} {q : Nat} {c : ag_C} (h2 : 2 ≤ q) (h3 : q < h.1) (e : h.2.2 q = c) : ag_at h (.ref q) = some c := by rw [md_atE h2 h3, e]
theorem pu_inv {h : ag_H} {q : Nat} {c : ag_C} (e : ag_at h (.ref q) = some c) : 2 ≤ q ∧ q < h.1 ∧ h.2.2 q = c := by
  obtain ⟨j, hj, h1, h2⟩ := ag_at_some e
  cases hj
  exact ⟨by omega, h1, h2⟩
theorem pu_up_ne {h : ag_H} {q a : Nat} (c : ag_C) (hn : a ≠ q) : ag_at (ag_up h q c) (.ref a) = ag_at h (.ref a) := by
  by_cases h2 : 2 ≤ a
  · by_cases h3 : a < h.1
    · rw [md_atE (h := ag_up h q c) h2 h3, md_atE h2 h3]
      exact congrArg some (if_neg hn)
    · cases e1 : ag_at (ag_up h q c) (.ref a) with
      | some x => exact absurd (pu_inv e1).2.1 h3
      | none =>
        cases e2 : ag_at h (.ref a) with
        | some x => exact absurd (pu_inv e2).2.1 h3
        | none => rfl
  · cases e1 : ag_at (ag_up h q c) (.ref a) with
    | some x => exact absurd (pu_inv e1).1 h2
    | none =>
      cases e2 : ag_at h (.ref a) with
      | some x => exact absurd (pu_inv e2).1 h2
      | none => rfl
theorem pu_up_eq {h : ag_H} {q : Nat} {c0 : ag_C} (c : ag_C) (e : ag_at h (.ref q) = some c0) : ag_at (ag_up h q c) (.ref q) = some c := by
  obtain ⟨h2, h3, -⟩ := pu_inv e
  exact pu_at (h := ag_up h q c) h2 h3 (if_pos rfl)
theorem pu_nw_old {h : ag_H} {n a : Nat} {c c0 : ag_C} (e : ag_at h (.ref a) = some c0) : ag_at (ag_nw h n c) (.ref a) = some c0 := by
  obtain ⟨h2, h3, h4⟩ := pu_inv e
  exact pu_at (h := ag_nw h n c) h2 (show a < h.1 + 1 by omega) ((if_neg (by omega)).trans h4)
theorem pu_nw_new {h : ag_H} {n : Nat} {c : ag_C} (h2 : 2 ≤ h.1) : ag_at (ag_nw h n c) (.ref h.1) = some c :=
  pu_at (h := ag_nw h n c) h2 (show h.1 < h.1 + 1 by omega) (if_pos rfl)
theorem pu_gf {h : ag_H} {a ci k : Nat} {fs : List Value} {w : Value} (e : ag_at h (.ref a) = some (.inr (ci, fs))) (hk : fs[k]? = some w) : ag_gf h (.ref a) ci k = some w := by
  unfold ag_gf
  simp only [e]
  simp [hk]
theorem pu_gi {h : ag_H} {a ci k : Nat} {fs : List Value} {x : Int32} (e : ag_at h (.ref a) = some (.inr (ci, fs))) (hk : fs[k]? = some (.int x)) : ag_gi h (some a) ci k = some x := by
  unfold ag_gi
  have : ag_gf h (ag_rf (some a)) ci k = some (.int x) := pu_gf e hk
  simp only [this]
theorem pu_gr {h : ag_H} {a ci k r : Nat} {fs : List Value} (e : ag_at h (.ref a) = some (.inr (ci, fs))) (hk : fs[k]? = some (.ref r)) : ag_gr h (some a) ci k = some (some r) := by
  unfold ag_gr
  have : ag_gf h (ag_rf (some a)) ci k = some (.ref r) := pu_gf e hk
  simp only [this]
theorem pu_gn {h : ag_H} {a ci k : Nat} {fs : List Value} (e : ag_at h (.ref a) = some (.inr (ci, fs))) (hk : fs[k]? = some .null) : ag_gr h (some a) ci k = some none := by
  unfold ag_gr
  have : ag_gf h (ag_rf (some a)) ci k = some .null := pu_gf e hk
  simp only [this]
theorem pu_rc {h : ag_H} {a ci : Nat} {fs : List Value} (e : ag_at h (.ref a) = some (.inr (ci, fs))) : ag_rc h (some a) ci = some a := by
  unfold ag_rc
  have : ag_at h (ag_rf (some a)) = some (.inr (ci, fs)) := e
  simp [this]
theorem pu_pf {h : ag_H} {a ci k : Nat} {fs : List Value} {ty : FieldType} {w : Value} (e : ag_at h (.ref a) = some (.inr (ci, fs))) (hk : k < fs.length) (hn : narrow ty w = w) (hf : fits ty w = true) : ag_pf h (ag_rf (some a)) ci k ty w = some (ag_up h a (.inr (ci, fs.set k w))) := by
  show ag_pf h (.ref a) ci k ty w = _
  unfold ag_pf
  simp only [e]
  rw [if_pos ⟨trivial, hk, hn, hf⟩]
theorem pu_ai {h : ag_H} {a t n : Nat} {f : Nat → Int32} (e : ag_at h (.ref a) = some (.inl (t, n, .inl f))) : ag_ai h t (some a) = some (n, f) := by
  unfold ag_ai
  have : ag_at h (ag_rf (some a)) = some (.inl (t, n, .inl f)) := e
  simp [this]
theorem pu_ck {h : ag_H} {a ci : Nat} {fs : List Value} (e : ag_at h (.ref a) = some (.inr (ci, fs))) : ag_ck h (some a) ci = true := by
  unfold ag_ck
  simp [e]
/-- what the class writes lies apart from the reference -/
theorem pu_md_up {h : ag_H} {b q : Nat} (S : MS) (c : ag_C) (hq : q < b ∨ b + 21 < q) : ag_up (md_up h b S) q c = md_up (ag_up h q c) b S := by
  unfold ag_up md_up
  refine Prod.ext rfl (Prod.ext rfl (funext fun x => ?_))
  show (if x = q then c else _) = (if x < b then (if x = q then c else h.2.2 x) else if x = b then _ else if x ≤ b + 21 then _ else (if x = q then c else h.2.2 x))
  by_cases e : x = q
  · subst e
    rw [if_pos rfl]
    rcases hq with hq | hq
    · rw [if_pos hq, if_pos rfl]
    · rw [if_neg (by omega), if_neg (by omega), if_neg (by omega), if_pos rfl]
  · rw [if_neg e, if_neg e]
theorem pu_md_at {h : ag_H} {b q : Nat} {S : MS} {c : ag_C} (hq : q < b ∨ b + 21 < q) (e : ag_at h (.ref q) = some c) : ag_at (md_up h b S) (.ref q) = some c := by
  obtain ⟨h2, h3, h4⟩ := pu_inv e
  refine pu_at (h := md_up h b S) h2 h3 ?_
  show (if q < b then h.2.2 q else if q = b then _ else if q ≤ b + 21 then _ else h.2.2 q) = c
  rcases hq with hq | hq
  · rw [if_pos hq, h4]
  · rw [if_neg (by omega), if_neg (by omega), if_neg (by omega), h4]
