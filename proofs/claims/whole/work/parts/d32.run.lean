/-! ### The invariant of the run -/
def gX (ow : Nat → Nat) (g : ag_H) (S : MS) : Prop := ∃ (lc : Nat → Nat) (ln : Nat) (M : List g_Cl) (Bs : List (List g_Cl)) (D : List g_Cl) (Ts : List w_T) (K most more : Nat) (re : Int32) (rd : Nat) (un : Int32) (Gs G : List j_R), cI ow g lc ln M Bs D Ts K most more re rd un Gs ∧ mI S lc ln M Bs D Ts K most more re rd un G ∧ g_ok lc ln M Bs D Ts K most more ∧ (Gs.Perm G ∧ r_srt Gs) ∧ G.Nodup ∧ G.length ≤ 30
def gW (t : Nat) (h : ag_H) (S : MS) : Prop := (h.1 ≤ 75 + 100 * t ∧ h.2.1 ≤ 7192 + 500 * t) ∧ fr_H 52 (md_up h 52 S) (md_up h 52 S) ∧ lw_Wf 2 52 74 h
def gI (t : Nat) (h : ag_H) (S : MS) : Prop := (∃ ow, gX ow (md_up h 52 S) S) ∧ gW t h S
theorem md_out {h : ag_H} {S : MS} {q : Nat} (hq : q < 52 ∨ 73 < q) : (md_up h 52 S).2.2 q = h.2.2 q := by
  show (if q < 52 then h.2.2 q else if q = 52 then .inr (10, md_fs 52 S.1) else if q ≤ 52 + 21 then md_ar S (q - 52) else h.2.2 q) = h.2.2 q
  rcases hq with e | e
  · rw [if_pos e]
  · rw [if_neg (by omega), if_neg (by omega), if_neg (by omega)]
theorem gI_next {t : Nat} {h : ag_H} {S : MS} (w : gW t h S) {g' : ag_H} (hF : fr_H 52 (md_up h 52 S) g') (hc : c_fr (md_up h 52 S) g' 100 500) {ow : Nat → Nat} {S1 : MS} (hX : gX ow g' S1) {h1 : ag_H} (e1 : h1.1 = g'.1) (e2 : h1.2.1 = g'.2.1) (e3 : ∀ q, q ≠ 74 → h1.2.2 q = g'.2.2 q) {f : Nat → Int64} (e4 : h1.2.2 74 = .inl (3, 1, .inr (.inl f))) : gI (t + 1) h1 S1 := by
  obtain ⟨lc, ln, M, Bs, D, Ts, K, most, more, re, rd, un, Gs, G, x1, x2⟩ := hX
  obtain ⟨⟨w1, w2⟩, w3, w4⟩ := w
  obtain ⟨c1, c2, c3, c4, c5⟩ := hc
  have c1 : h.1 ≤ g'.1 := c1
  have c2 : g'.1 ≤ h.1 + 100 := c2
  have c4 : g'.2.1 ≤ h.2.1 + 500 := c4
  have o := x1.1
  obtain ⟨mk, hG, -⟩ := x1.2.2.2.2.2
  refine ⟨⟨ow_nx ow g'.1 1, lc, ln, M, Bs, D, Ts, K, most, more, re, rd, un, Gs, G, cI_same (g := g') (g' := md_up h1 52 S1) (by show g'.1 ≤ h1.1; omega) (fun q hq _ => (md_out (by omega)).trans (e3 q (by omega))) 1 x1, x2⟩, ⟨by omega, by omega⟩, ⟨⟨by decide, by show 52 + 21 < h1.1; omega⟩, fun q _ _ => rfl, fun q hq ho => ?_⟩, ⟨by decide, by decide, by decide, by omega⟩, ⟨_, (e3 2 (by decide)).trans hG⟩, f, e4⟩
  have hq : q < h1.1 := hq
  rw [md_out (by omega)]
  by_cases e : q = 74
  · rw [e, e4]; exact trivial
  · rw [e3 q e]
    exact hF.2.2 q (by omega) ho
section ST
variable {t : Nat} {h : ag_H} {S : MS}
theorem st_D {F : ag_H → Option (Int32 × ag_H)} {Mf : MS → Option (Int32 × MS)} {r : Int32} {I1 : (Nat → Nat) → ag_H → Prop} {J1 : MS → Prop} (w : gW t h S) (hc : c_ret (F (md_up h 52 S)) (md_up h 52 S) r I1) (hm : m_ret (Mf S) r J1) (hf : ∀ res, F (md_up h 52 S) = some res → fr_H 52 (md_up h 52 S) res.2) (hk : ∀ ow g' S1, I1 ow g' → J1 S1 → gX ow g' S1) : lw_D F Mf 52 h S (gI (t + 1)) := by
  obtain ⟨g', ow', c1, c2, c3⟩ := hc
  obtain ⟨S1, m1, m2⟩ := hm
  have hF : fr_H 52 (md_up h 52 S) g' := hf _ c2
  obtain ⟨f, hf74⟩ := w.2.2.2.2
  refine ⟨r, g', S1, ?_, m1, gI_next w hF c1 (hk _ _ _ c3 m2) rfl rfl (fun _ _ => rfl) (f := f) (c1.2.2.2.2.trans ((md_out (by omega)).trans hf74))⟩
  rw [← fr_md hF]
  exact c2
theorem st_V {F : ag_H → Option (Int32 × ag_H)} {Mf : MS → Option (Int32 × MS)} {r r' : Int32} {I1 : (Nat → Nat) → ag_H → Prop} {J1 : MS → Prop} (w : gW t h S) (hc : c_ret (F (md_up h 52 S)) (md_up h 52 S) r I1) (hm : m_ret (Mf S) r' J1) (hf : ∀ res, F (md_up h 52 S) = some res → fr_H 52 (md_up h 52 S) res.2) (hk : ∀ ow g' S1, I1 ow g' → J1 S1 → gX ow g' S1) : lw_V F Mf 52 h S (gI (t + 1)) := by
  obtain ⟨g', ow', c1, c2, c3⟩ := hc
  obtain ⟨S1, m1, m2⟩ := hm
  have hF : fr_H 52 (md_up h 52 S) g' := hf _ c2
  obtain ⟨f, hf74⟩ := w.2.2.2.2
  refine ⟨r, r', g', S1, ?_, m1, gI_next w hF c1 (hk _ _ _ c3 m2) rfl rfl (fun _ _ => rfl) (f := f) (c1.2.2.2.2.trans ((md_out (by omega)).trans hf74))⟩
  rw [← fr_md hF]
  exact c2
theorem st_T {N : Nat} {F : ag_H → Option ((Int32 ⊕ Nat) × ag_H)} {Mf : MS → Option (Int32 × MS)} {kd : Nat → Option Int32} {r : Int32 × Int32} {I0 I1 : (Nat → Nat) → ag_H → Prop} {J0 J1 : MS → Prop} (w : gW t h S) (hc : c_out kd (F (md_up h 52 S)) (md_up h 52 S) r I0 I1) (hm : m_out (Mf S) r J0 J1) (hf : ∀ res, F (md_up h 52 S) = some res → fr_H 52 (md_up h 52 S) res.2) (hk0 : ∀ ow g' S1, I0 ow g' → J0 S1 → gX ow g' S1) (hk1 : ∀ ow g' S1, r.2 = Int32.ofInt 0 → I1 ow g' → J1 S1 → gX ow g' S1) : lw_T F Mf (fun S => fn_Md_thrown N S) kd 2 52 74 h S (gI (t + 1)) := by
  obtain ⟨g', ow', c1, c2⟩ := hc
  obtain ⟨S1, m1, m2, m3⟩ := hm
  obtain ⟨f, hf74⟩ := w.2.2.2.2
  have h74 : g'.2.2 74 = .inl (3, 1, .inr (.inl f)) := c1.2.2.2.2.trans ((md_out (by omega)).trans hf74)
  refine ⟨r.1, S1, S1.1 0, S1, m1, rfl, ?_⟩
  rcases c2 with ⟨a1, a2, a3⟩ | ⟨a1, e, ci, a2, a3, a4, a5⟩
  · left
    have hF : fr_H 52 (md_up h 52 S) g' := hf _ a2
    have hX : gX ow' g' S1 := hk1 _ _ _ a1 a3 (by
      rcases m3 with m3 | m3
      · exact m3.2
      · exact absurd a1 m3.1)
    have hI := gI_next w hF c1 hX (h1 := g') rfl rfl (fun _ _ => rfl) h74
    refine ⟨g', ?_, m2.trans a1, hI.2.2.2, fun f' hf' => gI_next w hF c1 hX (h1 := ag_up g' 74 (lw_oc f' r.1)) rfl rfl (fun q hq => if_neg hq) (f := vp_updL f' 0 r.1.toInt64) rfl⟩
    rw [← fr_md hF]
    exact a2
  · right
    have hF : fr_H 52 (md_up h 52 S) g' := hf _ a2
    have hX : gX ow' g' S1 := hk0 _ _ _ a5 (by
      rcases m3 with m3 | m3
      · exact absurd m3.1 a1
      · exact m3.2)
    have hI := gI_next w hF c1 hX (h1 := g') rfl rfl (fun _ _ => rfl) h74
    refine ⟨e, g', ci, [], ?_, ?_, a4.trans (congrArg some m2.symm), hI.2.2.2, hI⟩
    · rw [← fr_md hF]; exact a2
    · rw [← fr_md hF]; exact a3
end ST
section CLS
variable {N : Nat} {C : Nat × Nat} {ow : Nat → Nat} {g : ag_H} {S : MS} {lc : Nat → Nat} {ln : Nat} {M : List g_Cl} {Bs : List (List g_Cl)} {D : List g_Cl} {Ts : List w_T} {K most more : Nat} {re : Int32} {rd : Nat} {un : Int32} {G Gs : List j_R}
theorem s_cl_no (h : (s_cl lc ln M).2.2 = none) : ¬ (s_cl lc ln M).2.1 = Int32.ofInt 0 := by
  unfold s_cl at h ⊢
  split at h
  · exact (by decide : ¬ Int32.ofInt 1 = Int32.ofInt 0)
  · split at h
    · next c => rw [if_pos c]; decide
    · next c =>
      split at h
      · next c2 => rw [if_neg c, if_pos c2]; decide
      · cases h
theorem s_cl_yes {x : g_Cl} (h : (s_cl lc ln M).2.2 = some x) : (s_cl lc ln M).2.1 = Int32.ofInt 0 := by
  unfold s_cl at h ⊢
  split at h
  · cases h
  · split at h
    · cases h
    · next c =>
      split at h
      · cases h
      · next c2 => rw [if_neg c, if_neg c2]
theorem s_de_no (h : (s_de lc ln D).2.2 = none) : ¬ (s_de lc ln D).2.1 = Int32.ofInt 0 := by
  unfold s_de at h ⊢
  split at h
  · exact (by decide : ¬ Int32.ofInt 1 = Int32.ofInt 0)
  · split at h
    · next c => rw [if_pos c]; decide
    · cases h
theorem s_de_yes {x : g_Cl} (h : (s_de lc ln D).2.2 = some x) : (s_de lc ln D).2.1 = Int32.ofInt 0 := by
  unfold s_de at h ⊢
  split at h
  · cases h
  · split at h
    · cases h
    · next c => rw [if_neg c]
theorem c_clauseO (h : cI ow g lc ln M Bs D Ts K most more re rd un Gs) (ok : g_ok lc ln M Bs D Ts K most more) (hN : 60 ≤ N) (hC1 : g.1 + 100 ≤ C.1) (hC2 : g.2.1 + 500 ≤ C.2) : c_out kd_clause (fn_GC_clause N C 2 g) g ((s_cl lc ln M).1, (s_cl lc ln M).2.1) (fun ow g => cI ow g lc ln M Bs D Ts K most more re rd un Gs) (fun ow g => ∃ x, (s_cl lc ln M).2.2 = some x ∧ cI ow g lc 0 (M ++ [x]) Bs D Ts K most more re rd un Gs) := by
  obtain ⟨g', ow', ⟨f1, f2, f3, f4, f5⟩, k⟩ := c_clause (N := N) (C := C) h ok hN (by omega) (by omega)
  refine ⟨g', ow', ⟨f1, by omega, f3, by omega, f5⟩, ?_⟩
  cases e : (s_cl lc ln M).2.2 with
  | none =>
    rw [e] at k
    obtain ⟨z, ci, k1, k2, k3, k4⟩ := k
    exact Or.inr ⟨s_cl_no e, z, ci, k1, k2, k3, k4⟩
  | some x =>
    rw [e] at k
    obtain ⟨k1, k2, k3⟩ := k
    exact Or.inl ⟨k2, k1, x, rfl, k3⟩
theorem m_clauseO (hN : 60 ≤ N) (h : mI S lc ln M Bs D Ts K most more re rd un G) (ok : g_ok lc ln M Bs D Ts K most more) : m_out (fn_Md_clause N S) ((s_cl lc ln M).1, (s_cl lc ln M).2.1) (fun S => mI S lc ln M Bs D Ts K most more re rd un G) (fun S => ∃ x, (s_cl lc ln M).2.2 = some x ∧ mI S lc 0 (M ++ [x]) Bs D Ts K most more re rd un G) := by
  obtain ⟨S', k1, k2, k3⟩ := m_clause (N := N) hN h ok
  refine ⟨S', k1, k2, ?_⟩
  cases e : (s_cl lc ln M).2.2 with
  | none =>
    rw [e] at k3
    exact Or.inr ⟨s_cl_no e, k3⟩
  | some x =>
    rw [e] at k3
    exact Or.inl ⟨s_cl_yes e, x, rfl, k3⟩
theorem c_deskO (h : cI ow g lc ln M Bs D Ts K most more re rd un Gs) (ok : g_ok lc ln M Bs D Ts K most more) (hN : 60 ≤ N) (hC1 : g.1 + 100 ≤ C.1) (hC2 : g.2.1 + 500 ≤ C.2) : c_out kd_desk (fn_GC_desk N C 2 g) g ((s_de lc ln D).1, (s_de lc ln D).2.1) (fun ow g => cI ow g lc ln M Bs D Ts K most more re rd un Gs) (fun ow g => ∃ x, (s_de lc ln D).2.2 = some x ∧ cI ow g lc 0 M Bs (D ++ [x]) Ts K most more re rd un Gs) := by
  obtain ⟨g', ow', ⟨f1, f2, f3, f4, f5⟩, k⟩ := c_desk (N := N) (C := C) h ok hN (by omega) (by omega)
  refine ⟨g', ow', ⟨f1, by omega, f3, by omega, f5⟩, ?_⟩
  cases e : (s_de lc ln D).2.2 with
  | none =>
    rw [e] at k
    obtain ⟨z, ci, k1, k2, k3, k4⟩ := k
    exact Or.inr ⟨s_de_no e, z, ci, k1, k2, k3, k4⟩
  | some x =>
    rw [e] at k
    obtain ⟨k1, k2, k3⟩ := k
    exact Or.inl ⟨k2, k1, x, rfl, k3⟩
theorem m_deskO (hN : 60 ≤ N) (h : mI S lc ln M Bs D Ts K most more re rd un G) (ok : g_ok lc ln M Bs D Ts K most more) : m_out (fn_Md_desk N S) ((s_de lc ln D).1, (s_de lc ln D).2.1) (fun S => mI S lc ln M Bs D Ts K most more re rd un G) (fun S => ∃ x, (s_de lc ln D).2.2 = some x ∧ mI S lc 0 M Bs (D ++ [x]) Ts K most more re rd un G) := by
  obtain ⟨S', k1, k2, k3⟩ := m_desk (N := N) hN h ok
  refine ⟨S', k1, k2, ?_⟩
  cases e : (s_de lc ln D).2.2 with
  | none =>
    rw [e] at k3
    exact Or.inr ⟨s_de_no e, k3⟩
  | some x =>
    rw [e] at k3
    exact Or.inl ⟨s_de_yes e, x, rfl, k3⟩
end CLS
