/-! ### Comparisons -/
theorem g_cmp_bnd {c : Nat → Nat} {n : Nat} : ∀ p l m r, p ≤ n → g_cmp c n p l m = some r → p < r.1 ∧ r.1 ≤ n ∧ r.2.1.length + p ≤ l.length + r.1 := by
  intro p l m r hp e
  unfold g_cmp at e
  obtain ⟨r1, e1, e⟩ := md_bd e
  have h1 := g_sum_bnd 6 0 _ _ _ _ hp e1
  have hs := g_s_le (c := c) h1.2.1
  split at e
  · next hc =>
    obtain ⟨r2, e2, e⟩ := md_bd e
    have hlt : g_s c n r1.1 < n := by
      refine g_h_lt (c := c) (n := n) (p := r1.1) (fun q => ?_)
      rw [q] at hc; cases hc
    have h2 := g_sum_bnd 6 0 _ _ _ _ (show g_s c n r1.1 + 1 ≤ n by omega) e2
    cases e
    dsimp only
    rw [List.length_append]
    simp only [List.length_cons, List.length_nil]
    omega
  · cases e
theorem g_cms_bnd {c : Nat → Nat} {n : Nat} : ∀ d p l m r, p ≤ n → g_cms c n d p l m = some r → p < r.1 ∧ r.1 ≤ n ∧ r.2.1.length + p ≤ l.length + r.1
  | 0, p, l, m, r, hp, e => by cases e
  | d + 1, p, l, m, r, hp, e => by
    unfold g_cms at e
    obtain ⟨r1, e1, e⟩ := md_bd e
    have h1 := g_cmp_bnd _ _ _ _ hp e1
    have hs := g_s_le (c := c) h1.2.1
    split at e
    · cases e; dsimp only; omega
    · next p2 e2 =>
      have h2 := g_t_ok h1.2.1 (by decide) e2
      have h3 := g_cms_bnd d _ _ _ _ h2.2 e
      omega
section CM
variable {N : Nat} {C : Nat × Nat} {h : ag_H} {n p k : Nat} {nv bv : Int32} {st : Nat → Int32} {c : Nat → Nat} {f : Nat → Int32}
theorem c_isc (x : Nat) (hx : x ≤ 126) : fn_GC_isComparison N C (Int32.ofNat x) h = some (if g_isc x = true then Int32.ofInt 1 else Int32.ofInt 0, h) := by
  unfold fn_GC_isComparison fn_GC_isComparison_0 fn_GC_isComparison_24 fn_GC_isComparison_29 g_isc
  rw [n_c60, n_c62, n_c61, n_c35]
  simp (disch := omega) only [n_eq, if_pos n_b1, if_pos n_b0]
  by_cases e1 : x = 60
  · simp [e1]
  by_cases e2 : x = 62
  · simp [e2]
  by_cases e3 : x = 61
  · simp [e3]
  by_cases e4 : x = 35
  · simp [e4]
  simp [e1, e2, e3, e4]
theorem c_cmp (o : rs_ok c f n h) (hN : 42 ≤ N) {l : List Int} {m : Int32} (hp : p ≤ n) (hl : l.length ≤ p) (hr : st_rep st l) : xs_sp n h bv (g_cmp c n p l m) (fn_Rd_readComparison N C 5 (some 3) (rs h n p l.length m bv st)) := by
  have on := o.2.1
  unfold fn_Rd_readComparison fn_Rd_readComparison_0 g_cmp fn_Rd_readComparison_57 fn_Rd_readComparison_58
  rw [rs_rc5 o, Option.bind_some]
  have k1 := c_sum (C := C) (bv := bv) o hN 6 0 p l m st (by omega) (by omega) hp hl hr
  rw [n_0]
  cases e1 : g_sum c n 6 0 p l m with
  | none =>
    rw [e1] at k1
    obtain ⟨p', k', nv', st', hp', k1⟩ := k1
    simp only [k1, Option.bind_some, Option.bind_none, n_e00, if_true]
    exact ⟨p', k', nv', st', hp', if_pos n_b0⟩
  | some r =>
    rw [e1] at k1
    obtain ⟨st', k1, hr'⟩ := k1
    have hb := g_sum_bnd 6 0 _ _ _ _ hp e1
    have hs := g_s_le (c := c) hb.2.1
    have hh := g_h_le o r.1
    simp only [k1, Option.bind_some, if_neg n_ne10, rs_rc3 o, c_sign o hN hb.2.1, c_isc _ hh]
    by_cases e2 : g_isc (g_h c n r.1) = true
    · have hlt : g_s c n r.1 < n := by
        refine g_h_lt (c := c) (n := n) (p := r.1) (fun q => ?_)
        rw [q] at e2; cases e2
      simp only [if_pos e2, if_neg n_ne10, rs_pos o, Option.bind_some, n_1, n_add, rs_pp o, rs_rc5 o]
      have k2 := c_sum (C := C) (bv := bv) o hN 6 0 (g_s c n r.1 + 1) r.2.1 r.2.2 st' (by omega) (by omega) (by omega) (by omega) hr'
      cases e3 : g_sum c n 6 0 (g_s c n r.1 + 1) r.2.1 r.2.2 with
      | none =>
        rw [e3] at k2
        obtain ⟨p', k', nv', st', hp', k2⟩ := k2
        simp only [k2, Option.bind_some, Option.bind_none, n_e00, if_true]
        exact ⟨p', k', nv', st', hp', rfl⟩
      | some r2 =>
        rw [e3] at k2
        obtain ⟨st2, k2, hr2⟩ := k2
        have hb2 := g_sum_bnd 6 0 _ _ _ _ (show g_s c n r.1 + 1 ≤ n by omega) e3
        refine ⟨_, ?_, st_app hr2 _⟩
        simp only [k2, Option.bind_some, if_neg n_ne10, rs_rc5 o, c_addStep o (show r2.2.1.length < 40 by omega)]
        rw [List.length_append, Int32.ofInt_neg]
        rfl
    · simp only [if_neg e2, n_e00, if_true]
      exact ⟨_, _, _, _, hs.2, if_pos n_b0⟩
theorem c_cms (o : rs_ok c f n h) (hN : 42 ≤ N) : ∀ (e d i p : Nat) (l : List Int) (m : Int32) (st : Nat → Int32), i + e = 2 → e + 1 ≤ d → p ≤ n → l.length ≤ p → st_rep st l → xs_sp n h bv (g_cms c n e p l m) (fn_Rd_readBody_75 N C 5 d (some 3) (Int32.ofNat i) (rs h n p l.length m bv st))
  | e, 0, i, p, l, m, st, hi, hd, hp, hl, hr => absurd hd (by omega)
  | 0, d + 1, i, p, l, m, st, hi, hd, hp, hl, hr => by
    rw [fe_Rd_readBody_75, n_2, if_pos (n_leT (by omega) (by omega)), if_pos n_b0]
    exact ⟨p, _, _, _, hp, rfl⟩
  | e + 1, d + 1, i, p, l, m, st, hi, hd, hp, hl, hr => by
    rw [fe_Rd_readBody_75, n_2, if_neg (n_leF (by omega) (by omega)), rs_rc5 o, Option.bind_some]
    unfold g_cms
    have k1 := c_cmp (C := C) (bv := bv) o hN (m := m) hp hl hr
    cases e1 : g_cmp c n p l m with
    | none =>
      rw [e1] at k1
      obtain ⟨p', k', nv', st', hp', k1⟩ := k1
      simp only [k1, Option.bind_some, Option.bind_none, n_e00, if_true]
      exact ⟨p', k', nv', st', hp', if_pos n_b0⟩
    | some r =>
      rw [e1] at k1
      obtain ⟨st', k1, hr'⟩ := k1
      have hb := g_cmp_bnd _ _ _ _ hp e1
      have hs := g_s_le (c := c) hb.2.1
      simp only [k1, Option.bind_some, if_neg n_ne10, rs_rc3 o]
      rw [n_c44, c_takes o hN hb.2.1 (by omega)]
      cases e2 : g_t c n r.1 44 with
      | none =>
        simp only [Option.bind_some, n_e00, if_true]
        exact ⟨st', if_pos n_b1, hr'⟩
      | some p2 =>
        have h2 := g_t_ok hb.2.1 (by decide) e2
        simp only [Option.bind_some, if_neg n_ne10]
        rw [n_1, n_add]
        exact c_cms o hN e d (i + 1) p2 r.2.1 r.2.2 st' (by omega) (by omega) h2.2 (by omega) hr'
end CM
