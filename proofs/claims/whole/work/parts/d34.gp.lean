/-! ### Every call keeps the invariant; gp -/
theorem fr_ok2 : fr_ok 52 (some 2) := fun q e => by cases e; exact Or.inl (by decide)
theorem gz_step {G : ag_G} (hG : ag_Ln G ≤ 2560) {t : Nat} (ht : 5 * t + 5 ≤ ag_Ln G) {h : ag_H} {S : MS} (hI : gI t h S) : lw_step gx_N gx_C 2 52 74 G t h S (gI (t + 1)) := by
  have hI0 := hI
  obtain ⟨⟨ow, lc, ln, M, Bs, D, Ts, K, most, more, re, rd, un, Gs, GG, x1, x2, x3, ⟨x4, x5⟩, x6, x7⟩, w⟩ := hI
  have hw1 := w.1
  have hN1 : 60 ≤ gx_N := Nat.le_of_ble_eq_true rfl
  have hN2 : 1000 ≤ gx_N := Nat.le_of_ble_eq_true rfl
  have hN3 : 30000 ≤ gx_N := Nat.le_of_ble_eq_true rfl
  have hC1 : (md_up h 52 S).1 + 100 ≤ gx_C.1 := by show h.1 + 100 ≤ 601026; omega
  have hC2 : (md_up h 52 S).2.1 + 500 ≤ gx_C.2 := by show h.2.1 + 500 ≤ 7293034; omega
  have hF := w.2.1
  have keep : ∀ (ow' : Nat → Nat) (g' : ag_H) (S1 : MS), cI ow' g' lc ln M Bs D Ts K most more re rd un Gs → mI S1 lc ln M Bs D Ts K most more re rd un GG → gX ow' g' S1 := fun ow' g' S1 a b => ⟨lc, ln, M, Bs, D, Ts, K, most, more, re, rd, un, Gs, GG, a, b, x3, ⟨x4, x5⟩, x6, x7⟩
  unfold lw_step
  by_cases q0 : (ag_xs G (5 * t)) &&& (Int8.ofInt (15)).toInt32 = (0 : Int32)
  · rw [if_pos q0]
    exact st_D w (c_type x1 x3.1.1 _) (m_type x2 x3 _) (fun res e => a_GC_type e hF fr_ok2) (fun ow' g' S1 a b => ⟨_, _, M, Bs, D, Ts, K, most, more, re, rd, un, Gs, GG, a, b, ok_type x3 _, ⟨x4, x5⟩, x6, x7⟩)
  rw [if_neg q0]
  by_cases q1 : (ag_xs G (5 * t)) &&& (Int8.ofInt (15)).toInt32 = (1 : Int32)
  · rw [if_pos q1]
    exact st_V w (c_wipe x1) (m_wipe x2 x3) (fun res e => a_GC_wipe e hF fr_ok2) (fun ow' g' S1 a b => ⟨_, _, M, Bs, D, Ts, K, most, more, re, rd, un, Gs, GG, a, b, ok_wipe x3, ⟨x4, x5⟩, x6, x7⟩)
  rw [if_neg q1]
  by_cases q2 : (ag_xs G (5 * t)) &&& (Int8.ofInt (15)).toInt32 = (2 : Int32)
  · rw [if_pos q2]
    exact st_T w (c_clauseO x1 x3 hN1 hC1 hC2) (m_clauseO hN1 x2 x3) (fun res e => a_GC_clause e hF fr_ok2) keep (fun ow' g' S1 _ a b => by
      obtain ⟨x, a1, a2⟩ := a
      obtain ⟨x', b1, b2⟩ := b
      rw [a1] at b1
      cases b1
      exact ⟨_, _, _, Bs, D, Ts, K, most, more, re, rd, un, Gs, GG, a2, b2, ok_clause x3 a1, ⟨x4, x5⟩, x6, x7⟩)
  rw [if_neg q2]
  by_cases q3 : (ag_xs G (5 * t)) &&& (Int8.ofInt (15)).toInt32 = (3 : Int32)
  · rw [if_pos q3]
    exact st_T w (c_deskO x1 x3 hN1 hC1 hC2) (m_deskO hN1 x2 x3) (fun res e => a_GC_desk e hF fr_ok2) keep (fun ow' g' S1 _ a b => by
      obtain ⟨x, a1, a2⟩ := a
      obtain ⟨x', b1, b2⟩ := b
      rw [a1] at b1
      cases b1
      exact ⟨_, _, M, Bs, _, Ts, K, most, more, re, rd, un, Gs, GG, a2, b2, ok_desk x3 a1, ⟨x4, x5⟩, x6, x7⟩)
  rw [if_neg q3]
  by_cases q4 : (ag_xs G (5 * t)) &&& (Int8.ofInt (15)).toInt32 = (4 : Int32)
  · rw [if_pos q4]
    have hc : c_ret (fn_GC_clear gx_N gx_C 2 (md_up h 52 S)) (md_up h 52 S) 0 (fun ow g => cI ow g lc ln M Bs [] Ts K most more re rd un Gs) := by
      obtain ⟨g', k1, ⟨f1, f2, f3, f4, f5⟩, k3⟩ := c_clear (N := gx_N) (C := gx_C) hN2 x1
      exact ⟨g', ow, ⟨f1, by omega, f3, by omega, f5⟩, k1, k3⟩
    exact st_V w hc (m_clear x2) (fun res e => a_GC_clear e hF fr_ok2) (fun ow' g' S1 a b => ⟨_, _, M, Bs, _, Ts, K, most, more, re, rd, un, Gs, GG, a, b, ok_clear x3, ⟨x4, x5⟩, x6, x7⟩)
  rw [if_neg q4]
  by_cases q5 : (ag_xs G (5 * t)) &&& (Int8.ofInt (15)).toInt32 = (5 : Int32)
  · rw [if_pos q5]
    exact st_T w (c_issue x1 x3 _ hC1 hC2) (m_issue hN1 x2 x3 _) (fun res e => a_GC_issue e hF fr_ok2) keep (fun ow' g' S1 e a b => ⟨_, _, _, _, D, _, _, most, more, re, rd, un, Gs, GG, a, b, ok_issue x3 e, ⟨x4, x5⟩, x6, x7⟩)
  rw [if_neg q5]
  by_cases q6 : (ag_xs G (5 * t)) &&& (Int8.ofInt (15)).toInt32 = (6 : Int32)
  · rw [if_pos q6]
    exact st_T w (c_append hN2 x1 x3 _ hC1 hC2) (m_append hN1 x2 x3 _) (fun res e => a_GC_append e hF fr_ok2) keep (fun ow' g' S1 e a b => ⟨_, _, _, _, D, _, _, most, more, re, rd, un, Gs, GG, a, b, ok_append x3 e, ⟨x4, x5⟩, x6, x7⟩)
  rw [if_neg q6]
  by_cases q7 : (ag_xs G (5 * t)) &&& (Int8.ofInt (15)).toInt32 = (7 : Int32)
  · rw [if_pos q7]
    exact st_T w (c_seal hN2 x1 x3 _ hC1 hC2) (m_seal hN1 x2 x3 _) (fun res e => a_GC_seal e hF fr_ok2) keep (fun ow' g' S1 e a b => ⟨_, _, _, _, D, _, _, most, more, re, rd, un, Gs, GG, a, b, ok_seal x3 e, ⟨x4, x5⟩, x6, x7⟩)
  rw [if_neg q7]
  by_cases q8 : (ag_xs G (5 * t)) &&& (Int8.ofInt (15)).toInt32 = (8 : Int32)
  · rw [if_pos q8]
    exact st_T w (c_tamper hN2 x1 x3 _ _ _ _ hC1 hC2) (m_tamper hN1 x2 x3 _ _ _ _) (fun res e => a_GC_tamper e hF fr_ok2) keep (fun ow' g' S1 e a b => ⟨_, _, _, _, D, _, _, most, more, re, rd, un, Gs, GG, a, b, ok_tamper x3 e, ⟨x4, x5⟩, x6, x7⟩)
  rw [if_neg q8]
  by_cases q9 : (ag_xs G (5 * t)) &&& (Int8.ofInt (15)).toInt32 = (9 : Int32)
  · rw [if_pos q9]
    exact st_D w (c_limits x1 _ _) (m_limits x2 _ _) (fun res e => a_GC_limits e hF fr_ok2) (fun ow' g' S1 a b => ⟨_, _, M, Bs, D, Ts, K, _, _, re, rd, un, Gs, GG, a, b, ok_limits x3 _ _, ⟨x4, x5⟩, x6, x7⟩)
  rw [if_neg q9]
  by_cases q10 : (ag_xs G (5 * t)) &&& (Int8.ofInt (15)).toInt32 = (10 : Int32)
  · rw [if_pos q10]
    exact st_T w (c_auth hN2 x1 x3 _ _ hC1 hC2) (m_auth hN1 hN3 x2 x3 _ _) (fun res e => a_GC_authorize e hF fr_ok2) keep (fun ow' g' S1 e a b => by
      obtain ⟨Gs', a1, a2, a3⟩ := a
      obtain ⟨n1, n2⟩ := s_jd_nd (most := most) (more := more) (w_Ps_ok x3 (w_at Ts (ag_xs G (5 * t + 1)))) x3.2.2.2.2.2.1.2 (w_ok (w_at Ts (ag_xs G (5 * t + 1))) (ag_xs G (5 * t + 2)))
      exact ⟨_, _, _, _, D, _, _, most, more, _, _, _, Gs', _, a3, b, x3, ⟨a1, a2⟩, n1, n2⟩)
  rw [if_neg q10]
  by_cases q11 : (ag_xs G (5 * t)) &&& (Int8.ofInt (15)).toInt32 = (11 : Int32)
  · rw [if_pos q11]
    obtain ⟨y, k1, k2⟩ := b_latest (N := gx_N) (C := gx_C) x1 x2 x4.length_eq (ag_xs G (5 * t + 1))
    exact st_D w ⟨_, ow, c_fr_self _, k1, x1⟩ ⟨_, k2, mI_th _ x2⟩ (fun res e => a_GC_latest e hF fr_ok2) keep
  rw [if_neg q11]
  by_cases q12 : (ag_xs G (5 * t)) &&& (Int8.ofInt (15)).toInt32 = (12 : Int32)
  · rw [if_pos q12]
    exact st_T w (c_fact x1 _ _ hC1 hC2) (m_fact hN2 x2 x4 x5 x6 x7 _ _) (fun res e => a_GC_fact e hF fr_ok2) keep (fun ow' g' S1 _ a b => keep ow' g' S1 a b)
  rw [if_neg q12]
  by_cases q13 : (ag_xs G (5 * t)) &&& (Int8.ofInt (15)).toInt32 = (13 : Int32)
  · rw [if_pos q13]
    exact st_T w (c_token x1 x3 _ _ hC1 hC2) (m_token x2 x3 _ _) (fun res e => a_GC_token e hF fr_ok2) keep (fun ow' g' S1 _ a b => keep ow' g' S1 a b)
  rw [if_neg q13]
  by_cases q14 : (ag_xs G (5 * t)) &&& (Int8.ofInt (15)).toInt32 = (14 : Int32)
  · rw [if_pos q14]
    obtain ⟨y, k1, k2⟩ := b_count (N := gx_N) (C := gx_C) x1 x2 (ag_xs G (5 * t + 1))
    exact st_D w ⟨_, ow, c_fr_self _, k1, x1⟩ ⟨_, k2, mI_th _ x2⟩ (fun res e => a_GC_count e hF fr_ok2) keep
  rw [if_neg q14]
  exact ⟨hI0.1, ⟨by omega, by omega⟩, w.2⟩
theorem gz_gp : gp := by
  unfold gp
  intro G hG
  refine ⟨gI, ?_, gz_start, ?_⟩
  · intro t h S hI
    rw [gx_b52]
    exact hI.2.2.2
  · intro t h S ht hI
    rw [gx_b52]
    exact gz_step hG ht hI
