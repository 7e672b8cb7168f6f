/-! ### Swapped, cut, opened, copied -/
section YO2
variable {N : Nat} {C : Nat × Nat} {ow : Nat → Nat} {g : ag_H} {t : Nat} {T : w_T}
theorem j_b_nar (b : Bool) : narrow .boolean (.int (j_b b)) = .int (j_b b) := by cases b <;> rfl
theorem j_b_fit (b : Bool) : fits .boolean (.int (j_b b)) = true := by cases b <;> rfl
theorem y_open (hg : 75 ≤ g.1) (h : yT ow g t T) (x : Int32) : ∃ g', fn_Tk_openWith N C t x g = some (0, g') ∧ c6 ow ow g g' 0 0 ∧ yT ow g' t (T.1, false, x, T.2.2.2) := by
  obtain ⟨l, hl, ea, hr⟩ := yT_at h
  obtain ⟨y1, y2⟩ := yT_up (T' := (T.1, false, x, T.2.2.2)) hg h hl rfl
  refine ⟨_, ?_, y2, y1⟩
  unfold fn_Tk_openWith fn_Tk_openWith_0
  rw [pu_pf ea (Nat.le_of_ble_eq_true rfl) rfl rfl, Option.bind_some, pu_pf (pu_up_eq _ ea) (Nat.le_of_ble_eq_true rfl) rfl rfl, Option.bind_some, pu_up_up]
  rfl
theorem y_swb (hg : 75 ≤ g.1) (h : yT ow g t T) {a b : Nat} {x y : w_K} (hx : T.1[a]? = some x) (hy : T.1[b]? = some y) (hC1 : g.1 + 2 ≤ C.1) (hC2 : g.2.1 + 10 ≤ C.2) : ∃ g' ow', fn_Tk_swapBlocks N C t (Int32.ofNat a) (Int32.ofNat b) g = some (0, g') ∧ c6 ow ow' g g' 2 10 ∧ yT ow' g' t ((T.1.set a (y.1, x.2)).set b (x.1, y.2), T.2) := by
  obtain ⟨l, hl, ea, hr⟩ := yT_at h
  have ha := (List.getElem?_eq_some_iff.mp hx).1
  have hb := (List.getElem?_eq_some_iff.mp hy).1
  obtain ⟨pa, ga, la, lat⟩ := y_get (N := N) (C := C) h hl hx
  obtain ⟨pb, gb, lb, lbt⟩ := y_get (N := N) (C := C) h hl hy
  obtain ⟨g1, ow1, k1, k2, k3⟩ := y_change (N := N) (C := C) hg h hx y.1 x.2.1 (by omega) (by omega)
  have hy1 : (T.1.set a (y.1, x.2.1, x.2.2))[b]? = some y := by
    by_cases e : a = b
    · subst e
      rw [hx] at hy
      cases hy
      rw [List.getElem?_set_self ha]
    · rw [List.getElem?_set_ne e]
      exact hy
  obtain ⟨l1, hl1, ea1, hr1⟩ := yT_at k3
  obtain ⟨pb1, gb1, lb1, lbt1⟩ := y_get (N := N) (C := C) k3 hl1 hy1
  have kb := k2.2
  obtain ⟨g2, ow2, m1, m2, m3⟩ := y_change (N := N) (C := C) (show 75 ≤ g1.1 by omega) k3 hy1 x.1 y.2.1 (by omega) (by omega)
  refine ⟨g2, ow2, ?_, c6_tr k2 m2, m3⟩
  unfold fn_Tk_swapBlocks fn_Tk_swapBlocks_0
  rw [pu_gr (k := 0) ea rfl, Option.bind_some, al_rep_rc hr, Option.bind_some, ga, Option.bind_some]
  dsimp only
  rw [if_pos (pu_ck lat), pu_gi (k := 0) lat rfl, Option.bind_some, pu_gr (k := 0) ea rfl, Option.bind_some, al_rep_rc hr, Option.bind_some, gb, Option.bind_some]
  dsimp only
  rw [if_pos (pu_ck lbt), pu_gi (k := 0) lbt rfl, Option.bind_some, pu_gr (k := 0) ea rfl, Option.bind_some, al_rep_rc hr, Option.bind_some, ga, Option.bind_some]
  dsimp only
  rw [if_pos (pu_ck lat), pu_gi (k := 1) lat rfl, Option.bind_some, pu_rc ea, Option.bind_some, k1, Option.bind_some]
  dsimp only
  rw [pu_gr (k := 0) ea1 rfl, Option.bind_some, al_rep_rc hr1, Option.bind_some, gb1, Option.bind_some]
  dsimp only
  rw [if_pos (pu_ck lbt1), pu_gi (k := 1) lbt1 rfl, Option.bind_some, pu_rc ea1, Option.bind_some, m1, Option.bind_some]
theorem y_swl (hg : 75 ≤ g.1) (h : yT ow g t T) {a b : Nat} {x y : w_K} (hx : T.1[a]? = some x) (hy : T.1[b]? = some y) : ∃ g' ow', fn_Tk_swapLinks N C t (Int32.ofNat a) (Int32.ofNat b) g = some (0, g') ∧ c6 ow ow' g g' 0 0 ∧ yT ow' g' t ((T.1.set a y).set b x, T.2) := by
  obtain ⟨l, hl, ea, hr⟩ := yT_at h
  have ha := (List.getElem?_eq_some_iff.mp hx).1
  have hb := (List.getElem?_eq_some_iff.mp hy).1
  obtain ⟨pa, ga, la, lat⟩ := y_get (N := N) (C := C) h hl hx
  obtain ⟨pb, gb, lb, lbt⟩ := y_get (N := N) (C := C) h hl hy
  obtain ⟨o1, g1, k1, k2, k3⟩ := y_set (N := N) (C := C) hg h hl ha lb
  obtain ⟨l1, hl1, ea1, hr1⟩ := yT_at k3
  have kb := k2.2
  obtain ⟨o2, g2, m1, m2, m3⟩ := y_set (N := N) (C := C) (show 75 ≤ g1.1 by omega) k3 hl1 (by rw [List.length_set]; exact hb) (c6_lk k2 la)
  refine ⟨g2, _, ?_, c6_tr k2 m2, m3⟩
  unfold fn_Tk_swapLinks fn_Tk_swapLinks_0
  rw [pu_gr (k := 0) ea rfl, Option.bind_some, al_rep_rc hr, Option.bind_some, ga, Option.bind_some]
  dsimp only
  rw [if_pos (pu_ck lat), pu_gr (k := 0) ea rfl, Option.bind_some, Option.bind_some, al_rep_rc hr, Option.bind_some, gb, Option.bind_some]
  dsimp only
  rw [if_pos (pu_ck lbt), al_rep_rc hr, Option.bind_some, k1, Option.bind_some]
  dsimp only
  rw [pu_gr (k := 0) ea1 rfl, Option.bind_some, al_rep_rc hr1, Option.bind_some, m1, Option.bind_some]
theorem y_cut12 {n : Nat} (hn : 1 ≤ n) : ∀ (m d : Nat) (ow : Nat → Nat) (g : ag_H) (T : w_T), 75 ≤ g.1 → yT ow g t T → T.1.length = n + m → T.1.length < 100 → m < d → ∃ g' ow', fn_Tk_cutTo_12 N C t d (Int32.ofNat n) (Int32.ofNat (n + m - 1)) g = some (0, g') ∧ c6 ow ow' g g' 0 0 ∧ yT ow' g' t (T.1.take n, T.2)
  | m, 0, ow, g, T, _, _, _, _, hd => absurd hd (by omega)
  | 0, d + 1, ow, g, T, hg, h, hT, hT2, hd => by
    refine ⟨g, ow, ?_, c6_rf hg, ?_⟩
    · rw [fe_Tk_cutTo_12, if_pos (n_ltT (by omega) (by omega))]
    · rw [List.take_of_length_le (by omega)]
      exact h
  | m + 1, d + 1, ow, g, T, hg, h, hT, hT2, hd => by
    obtain ⟨l, hl, ea, hr⟩ := yT_at h
    obtain ⟨o, g1, k1, k2, k3⟩ := y_rml (N := N) (C := C) (n := n + m) hg h hl (by omega)
    have kb := k2.2
    have hlen : (T.1.take (n + m)).length = n + m := by rw [List.length_take]; omega
    obtain ⟨g2, ow2, m1, m2, m3⟩ := y_cut12 hn m d _ g1 (T.1.take (n + m), T.2) (by omega) k3 hlen (by show (T.1.take (n + m)).length < 100; omega) (by omega)
    refine ⟨g2, ow2, ?_, c6_tr k2 m2, ?_⟩
    · rw [fe_Tk_cutTo_12, show n + (m + 1) - 1 = n + m by omega, if_neg (n_ltF (by omega) (by omega)), pu_gr (k := 0) ea rfl, Option.bind_some, al_rep_rc hr, Option.bind_some, k1, Option.bind_some]
      rw [n_dn (show 1 ≤ n + m by omega)]
      exact m1
    · have e : (T.1.take (n + m)).take n = T.1.take n := by rw [List.take_take]; congr 1; omega
      rw [e] at m3
      exact m3
theorem y_cut (hN : 1000 ≤ N) (hg : 75 ≤ g.1) (h : yT ow g t T) {n : Nat} (hn : 1 ≤ n) (hn2 : n ≤ T.1.length) (hT2 : T.1.length < 100) : ∃ g' ow', fn_Tk_cutTo N C t (Int32.ofNat n) g = some (0, g') ∧ c6 ow ow' g g' 0 0 ∧ yT ow' g' t (T.1.take n, T.2) := by
  obtain ⟨l, hl, ea, hr⟩ := yT_at h
  obtain ⟨g', ow', k1, k2, k3⟩ := y_cut12 (N := N) (C := C) hn (T.1.length - n) N ow g T hg h (by omega) hT2 (by omega)
  refine ⟨g', ow', ?_, k2, k3⟩
  unfold fn_Tk_cutTo fn_Tk_cutTo_0
  rw [pu_gr (k := 0) ea rfl, Option.bind_some, al_rep_rc hr, Option.bind_some, al_rep_size hr, Option.bind_some]
  dsimp only
  rw [n_1, n_sub (by omega)]
  rw [show n + (T.1.length - n) - 1 = T.1.length - 1 by omega] at k1
  exact k1
/-- the copy -/
theorem y_cp10 {s : Nat} {T0 : w_T} (h0 : T0.1.length ≤ 4) : ∀ (m d : Nat) (ow : Nat → Nat) (g : ag_H), 75 ≤ g.1 → tk_rep (own ow 0) g s T0 → yT ow g t (T0.1.take (T0.1.length - m), false, 0, 0) → m ≤ T0.1.length → m < d → g.1 + m ≤ C.1 → g.2.1 + 10 * m ≤ C.2 → ∃ g' ow', fn_Tk_copy_10 N C s d (some t) (Int32.ofNat (T0.1.length - m)) g = some (some t, g') ∧ c6 ow ow' g g' m (10 * m) ∧ yT ow' g' t T0
  | m, 0, ow, g, _, _, _, _, hd, _, _ => absurd hd (by omega)
  | 0, d + 1, ow, g, hg, hs, h, hm, hd, hC1, hC2 => by
    rw [Nat.sub_zero, List.take_length] at h
    obtain ⟨s1, s2, s3, ls, s4, s5⟩ := hs
    have es := pu_at s2 s3 s4
    obtain ⟨l, hl, ea, hr⟩ := yT_at h
    have hst : s ≠ t := by
      rintro rfl
      have h6 := h.1
      have s1 : ow s = 0 := s1
      omega
    have hsu : ∀ c, ag_at (ag_up g t c) (.ref s) = _ := fun c => (pu_up_ne c hst).trans es
    obtain ⟨y1, y2⟩ := yT_up (T' := T0) hg h hl rfl
    refine ⟨_, ow, ?_, y2, y1⟩
    rw [fe_Tk_copy_10, Nat.sub_zero, pu_gr (k := 0) es rfl, Option.bind_some, al_rep_rc s5, Option.bind_some, al_rep_size s5, Option.bind_some]
    dsimp only
    rw [if_pos (n_leT (Nat.le_refl _) (by omega)), pu_gi (k := 1) es rfl, Option.bind_some, pu_pf ea (Nat.le_of_ble_eq_true rfl) (j_b_nar _) (j_b_fit _), Option.bind_some, pu_gi (k := 2) (hsu _) rfl, Option.bind_some, pu_pf (pu_up_eq _ ea) (Nat.le_of_ble_eq_true rfl) rfl rfl, Option.bind_some, pu_up_up, pu_gi (k := 3) (hsu _) rfl, Option.bind_some, pu_pf (pu_up_eq _ ea) (Nat.le_of_ble_eq_true rfl) rfl rfl, Option.bind_some, pu_up_up]
    rfl
  | m + 1, d + 1, ow, g, hg, hs, h, hm, hd, hC1, hC2 => by
    have hs0 := hs
    obtain ⟨s1, s2, s3, ls, s4, s5⟩ := hs
    have es := pu_at s2 s3 s4
    obtain ⟨l, hl, ea, hr⟩ := yT_at h
    have hi : T0.1.length - (m + 1) < T0.1.length := by omega
    obtain ⟨b, gb, lb⟩ := al_rep_get (N := N) (C := C) s5 (List.getElem?_eq_getElem hi)
    have lbt := pu_at lb.2.1 lb.2.2.1 lb.2.2.2
    obtain ⟨g1, k1, k2, k3⟩ := y_add (N := N) (C := C) hg h hl (by show (T0.1.take _).length < 10; rw [List.length_take]; omega) lb (by omega) (by omega)
    have htk : T0.1.take (T0.1.length - (m + 1)) ++ [T0.1[T0.1.length - (m + 1)]] = T0.1.take (T0.1.length - m) := by
      rw [show T0.1.length - m = T0.1.length - (m + 1) + 1 by omega, List.take_succ_eq_append_getElem hi]
    have k3' : yT (ow_nx ow g.1 6) g1 t (T0.1.take (T0.1.length - m), false, 0, 0) := by
      rw [← htk]
      exact k3
    have kb := k2.2
    obtain ⟨g2, ow2, m1, m2, m3⟩ := y_cp10 h0 m d _ g1 (by omega) (c6_tk k2 hs0) k3' (by omega) (by omega) (by omega) (by omega)
    refine ⟨g2, ow2, ?_, c6_up (c6_tr k2 m2) (by omega) (by omega), m3⟩
    rw [fe_Tk_copy_10, pu_gr (k := 0) es rfl, Option.bind_some, al_rep_rc s5, Option.bind_some, al_rep_size s5, Option.bind_some]
    dsimp only
    rw [if_neg (n_leF hi (by omega)), pu_gr (k := 0) ea rfl, Option.bind_some, pu_gr (k := 0) es rfl, Option.bind_some, al_rep_rc s5, Option.bind_some, gb, Option.bind_some]
    dsimp only
    rw [if_pos (pu_ck lbt), al_rep_rc hr, Option.bind_some, k1, Option.bind_some, n_1, n_add, show T0.1.length - (m + 1) + 1 = T0.1.length - m by omega]
    exact m1
theorem y_copy (hN : 1000 ≤ N) (hg : 75 ≤ g.1) {s : Nat} {T0 : w_T} (hs : tk_rep (own ow 0) g s T0) (h0 : T0.1.length ≤ 4) (hC1 : g.1 + 6 ≤ C.1) (hC2 : g.2.1 + 47 ≤ C.2) : ∃ g' ow', fn_Tk_copy N C s g = some (some g.1, g') ∧ c6 ow ow' g g' 6 47 ∧ yT ow' g' g.1 T0 := by
  obtain ⟨g1, k1, k2, k3⟩ := y_init (N := N) (C := C) (ow := ow) hg (by omega) (by omega)
  have kb := k2.2
  have k3' : yT (ow_nx ow g.1 6) g1 g.1 (T0.1.take (T0.1.length - T0.1.length), false, 0, 0) := by
    rw [Nat.sub_self, List.take_zero]
    exact k3
  obtain ⟨g2, ow2, m1, m2, m3⟩ := y_cp10 (N := N) (C := C) h0 T0.1.length N _ g1 (by omega) (c6_tk k2 hs) k3' (Nat.le_refl _) (by omega) (by omega) (by omega)
  refine ⟨g2, ow2, ?_, c6_up (c6_tr k2 m2) (by omega) (by omega), m3⟩
  unfold fn_Tk_copy fn_Tk_copy_0
  rw [if_pos ⟨by omega, by omega⟩, k1, Option.bind_some, n_0]
  rw [Nat.sub_self] at m1
  exact m1
end YO2
