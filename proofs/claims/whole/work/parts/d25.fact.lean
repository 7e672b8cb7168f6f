/-! ### fact: both sides -/
def r_fld (r : j_R) (k : Nat) : Int32 := if k = 0 then r.1 else if k = 1 then r.2.1 else if k = 2 then r.2.2.1 else if k = 3 then r.2.2.2.1 else r.2.2.2.2
theorem r_fld_row (f : Nat → Int32) : ∀ k, k < 5 → r_fld (j_row f) k = f k
  | 0, _ => rfl
  | 1, _ => rfl
  | 2, _ => rfl
  | 3, _ => rfl
  | 4, _ => rfl
abbrev fa_no (x1 x2 : Int32) (n : Nat) : Prop := x1 < 0 ∨ Int32.ofNat n ≤ x1 ∨ x2 < 0 ∨ ¬ x2 < Int32.ofInt 5
def s_fac (x1 x2 : Int32) (Gs : List j_R) : Int32 × Int32 := if fa_no x1 x2 Gs.length then (Int32.ofInt 0, Int32.ofInt 1) else (r_fld (Gs.getD x1.toNatClampNeg (0, 0, 0, 0, 0)) x2.toNatClampNeg, Int32.ofInt 0)
theorem fa_nat {n : Nat} (hn : n ≤ 30) {x1 x2 : Int32} (h : ¬ fa_no x1 x2 n) : ∃ i k, i < n ∧ k < 5 ∧ x1 = Int32.ofNat i ∧ x2 = Int32.ofNat k := by
  have h1 : ¬ x1 < 0 := fun q => h (Or.inl q)
  have h2 : ¬ Int32.ofNat n ≤ x1 := fun q => h (Or.inr (Or.inl q))
  have h3 : ¬ x2 < 0 := fun q => h (Or.inr (Or.inr (Or.inl q)))
  have h4 : x2 < Int32.ofInt 5 := Decidable.byContradiction fun q => h (Or.inr (Or.inr (Or.inr q)))
  obtain ⟨i, hi, rfl⟩ := n_nx h1
  obtain ⟨k, hk, rfl⟩ := n_nx h3
  rw [n_le (by omega) hi] at h2
  rw [n_5, n_lt hk (by omega)] at h4
  exact ⟨i, k, by omega, h4, rfl, rfl⟩
def r_lt (r s : j_R) : Bool := decide (r_en s < r_en r)
theorem all_lt (r : j_R) : ∀ (A : List j_R), (∀ a, a ∈ A → r_en a < r_en r) → A.countP (r_lt r) = A.length
  | [], _ => rfl
  | a :: A, h => by
    rw [List.countP_cons_of_pos (by unfold r_lt; exact decide_eq_true (h a (List.mem_cons_self ..))), all_lt r A (fun b hb => h b (List.mem_cons_of_mem _ hb))]
    rfl
theorem none_lt (r : j_R) : ∀ (A : List j_R), (∀ a, a ∈ A → r_en r ≤ r_en a) → A.countP (r_lt r) = 0
  | [], _ => rfl
  | a :: A, h => by
    rw [List.countP_cons_of_neg (by unfold r_lt; rw [decide_eq_true_eq]; have := h a (List.mem_cons_self ..); omega), none_lt r A (fun b hb => h b (List.mem_cons_of_mem _ hb))]
theorem rank_at {Gs : List j_R} (hs : r_srt Gs) (hn : Gs.Nodup) {k : Nat} {r : j_R} (h : Gs[k]? = some r) : Gs.countP (r_lt r) = k := by
  obtain ⟨hk, hr⟩ := List.getElem?_eq_some_iff.mp h
  have e : Gs = Gs.take k ++ r :: Gs.drop (k + 1) := by
    rw [← hr, List.getElem_cons_drop, List.take_append_drop]
  have hl : (Gs.take k).length = k := by rw [List.length_take]; omega
  rw [e] at hs hn
  unfold r_srt at hs
  rw [List.pairwise_append] at hs
  obtain ⟨s1, s2, s3⟩ := hs
  rw [List.pairwise_cons] at s2
  unfold List.Nodup at hn
  rw [List.pairwise_append] at hn
  rw [e, List.countP_append, all_lt r _ (fun a ha => ?_), none_lt r _ (fun a ha => ?_), hl, Nat.add_zero]
  · rcases List.mem_cons.mp ha with rfl | ha
    · exact Int.le_refl _
    · exact s2.1 a ha
  · have h1 := s3 a ha r (List.mem_cons_self ..)
    have h2 := hn.2.2 a ha r (List.mem_cons_self ..)
    have h3 : r_en a ≠ r_en r := fun q => h2 (r_en_inj q)
    omega
section FAC
variable {N : Nat} {C : Nat × Nat} {ow : Nat → Nat} {g : ag_H} {S : MS} {lc : Nat → Nat} {ln : Nat} {M : List g_Cl} {Bs : List (List g_Cl)} {D : List g_Cl} {Ts : List w_T} {K most more : Nat} {re : Int32} {rd : Nat} {un : Int32} {G Gs : List j_R}
theorem c_fact (h : cI ow g lc ln M Bs D Ts K most more re rd un Gs) (x1 x2 : Int32) (hC1 : g.1 + 100 ≤ C.1) (hC2 : g.2.1 + 500 ≤ C.2) :
    c_out kd_fact (fn_GC_fact N C 2 x1 x2 g) g (s_fac x1 x2 Gs) (fun ow g => cI ow g lc ln M Bs D Ts K most more re rd un Gs) (fun ow g => cI ow g lc ln M Bs D Ts K most more re rd un Gs) := by
  have h0 := h
  obtain ⟨h1, -, -, ⟨kn, rf, tr, he, mi, fa, ov, room, rv, rw, va, sk, ra, ⟨j7, j8, j9, j44, j45, jr⟩, hra, hfa⟩, -, mk, hG, hO⟩ := h
  have e2 : ag_at g (.ref 2) = _ := pu_at (by omega) (by omega) hG
  have e7 : ag_at g (.ref 7) = _ := pu_at (by omega) (by omega) j7
  have e8 : ag_at g (.ref 8) = _ := pu_at (by omega) (by omega) j8
  have e9 : ag_at g (.ref 9) = _ := pu_at (by omega) (by omega) j9
  have h30 := hfa.1
  have h27 : fn_GC_fact_27 N C 2 g = if g.1 + 1 ≤ C.1 ∧ g.2.1 + 6 ≤ C.2 then some (.inr g.1, ag_nw g 6 (.inr (14, []))) else none := rfl
  unfold s_fac fn_GC_fact fn_GC_fact_0
  by_cases c : fa_no x1 x2 Gs.length
  · rw [if_pos c]
    by_cases c1 : x1 < 0
    · rw [if_pos c1]
      exact c_thr h0 14 h27 (by omega) (by omega) (by decide) rfl
    rw [if_neg c1, pu_gr (k := 2) e2 rfl, Option.bind_some, pu_gr (k := 0) e7 rfl, Option.bind_some, pu_gi (k := 1) e8 rfl, Option.bind_some]
    by_cases c2 : Int32.ofNat Gs.length ≤ x1
    · rw [if_pos c2]
      exact c_thr h0 14 h27 (by omega) (by omega) (by decide) rfl
    rw [if_neg c2]
    by_cases c3 : x2 < 0
    · rw [if_pos c3]
      exact c_thr h0 14 h27 (by omega) (by omega) (by decide) rfl
    rw [if_neg c3, if_neg (show ¬ x2 < Int32.ofInt 5 by
      rcases c with c | c | c | c
      · exact absurd c c1
      · exact absurd c c2
      · exact absurd c c3
      · exact c)]
    exact c_thr h0 14 h27 (by omega) (by omega) (by decide) rfl
  · rw [if_neg c]
    have c1 : ¬ x1 < 0 := fun q => c (Or.inl q)
    have c2 : ¬ Int32.ofNat Gs.length ≤ x1 := fun q => c (Or.inr (Or.inl q))
    have c3 : ¬ x2 < 0 := fun q => c (Or.inr (Or.inr (Or.inl q)))
    have c4 : x2 < Int32.ofInt 5 := Decidable.byContradiction fun q => c (Or.inr (Or.inr (Or.inr q)))
    rw [if_neg c1, pu_gr (k := 2) e2 rfl, Option.bind_some, pu_gr (k := 0) e7 rfl, Option.bind_some, pu_gi (k := 1) e8 rfl, Option.bind_some, if_neg c2, if_neg c3, if_pos c4, Option.bind_some, pu_gr (k := 0) e7 rfl, Option.bind_some, pu_gr (k := 0) e8 rfl, Option.bind_some, pu_ao5 (Or.inr (Or.inr rfl)) e9, Option.bind_some]
    obtain ⟨i, k, hi, hk, rfl, rfl⟩ := fa_nat h30 c
    obtain ⟨r, hr⟩ : ∃ r, Gs[i]? = some r := ⟨_, List.getElem?_eq_getElem hi⟩
    obtain ⟨p1, p2, p3⟩ := hra.1 i (by omega)
    have er := pu_at (h := g) (by omega) (by omega) (jr (ra i) ⟨p2, p3⟩)
    rw [if_pos (show md_in (Int32.ofNat i) 31 = true by rw [n_in (by omega)]; omega), n_nat (show i < 2147483648 by omega)]
    show c_out _ ((ag_ai g 0 (rv i)).bind _) _ _ _ _
    rw [p1, pu_ai er, Option.bind_some, if_pos (show md_in (Int32.ofNat k) 5 = true by rw [n_in (by omega)]; omega), n_nat (show k < 2147483648 by omega), List.getD_eq_getElem?_getD, hr]
    refine c_val1 ?_ h0
    rw [← hfa.2 i r hr]
    show _ = some (Sum.inl (r_fld (j_row (rw (ra i))) k), g)
    rw [r_fld_row _ k hk]
theorem m_bf2 {i j : Nat} (hi : i ≤ 30) (hj : j ≤ 30) : ∀ (n d k : Nat), k + n = 5 → n < d → fn_Md_before_2 N d (Int32.ofNat i) (Int32.ofNat j) (Int32.ofNat k) S = some (if j_od (fun k => S.2 17 (5 * i + k)) (fun k => S.2 17 (5 * j + k)) n k = Int32.ofInt (-1) then Int32.ofInt 1 else Int32.ofInt 0, S)
  | n, 0, k, hk, hd => absurd hd (by omega)
  | 0, d + 1, k, hk, hd => by
    rw [fe_Md_before_2, n_5, if_pos (n_leT (by omega) (by omega)), if_pos n_b0]
    rfl
  | n + 1, d + 1, k, hk, hd => by
    have i1 : md_in (Int32.ofNat (5 * i + k)) (md_len 17) = true := by rw [n_in (by omega), ml17]; omega
    have i2 : md_in (Int32.ofNat (5 * j + k)) (md_len 17) = true := by rw [n_in (by omega), ml17]; omega
    have n1 : (Int32.ofNat (5 * i + k)).toNatClampNeg = 5 * i + k := n_nat (by omega)
    have n2 : (Int32.ofNat (5 * j + k)).toNatClampNeg = 5 * j + k := n_nat (by omega)
    rw [fe_Md_before_2, n_5, if_neg (n_leF (by omega) (by omega)), n_mul, n_mul, n_add, n_add, if_pos i1, if_pos i2, n1, n2]
    unfold j_od
    by_cases e : S.2 17 (5 * i + k) = S.2 17 (5 * j + k)
    · rw [if_pos e, n_1, n_add, m_bf2 hi hj n d (k + 1) (by omega) (by omega)]
      show _ = some (if (if S.2 17 (5 * i + k) = S.2 17 (5 * j + k) then _ else _) = _ then _ else _, S)
      rw [if_pos e]
      rfl
    · rw [if_neg e, if_pos i1, if_pos i2]
      show _ = some (if (if S.2 17 (5 * i + k) = S.2 17 (5 * j + k) then _ else if S.2 17 (5 * j + k) ≤ S.2 17 (5 * i + k) then Int32.ofInt 1 else Int32.ofInt (-1)) = Int32.ofInt (-1) then _ else _, S)
      rw [if_neg e]
      unfold fn_Md_before_58
      by_cases e2 : S.2 17 (5 * j + k) ≤ S.2 17 (5 * i + k)
      · rw [if_pos e2, if_pos e2, if_pos n_b0, if_neg (show ¬ Int32.ofInt 1 = Int32.ofInt (-1) by decide)]
      · rw [if_neg e2, if_neg e2, if_pos n_b1, if_pos rfl]
theorem m_before (hN : 60 ≤ N) {i j : Nat} (hi : i ≤ 30) (hj : j ≤ 30) : fn_Md_before N (Int32.ofNat i) (Int32.ofNat j) S = some (j_b (r_lt (r_row (S.2 17) j) (r_row (S.2 17) i)), S) := by
  unfold fn_Md_before fn_Md_before_0
  rw [n_0, m_bf2 hi hj 5 N 0 (by omega) (by omega)]
  have h := (od_en (f1 := fun k => S.2 17 (5 * i + k)) (f2 := fun k => S.2 17 (5 * j + k))).2
  have e1 : j_row (fun k => S.2 17 (5 * i + k)) = r_row (S.2 17) i := rfl
  have e2 : j_row (fun k => S.2 17 (5 * j + k)) = r_row (S.2 17) j := rfl
  rw [e1, e2] at h
  unfold r_lt j_b
  by_cases c : r_en (r_row (S.2 17) i) < r_en (r_row (S.2 17) j)
  · rw [if_pos (h.mpr c), decide_eq_true c, if_pos rfl]
  · rw [if_neg (fun q => c (h.mp q)), decide_eq_false c]
    rfl
theorem m_fa53 (hN : 60 ≤ N) {k32 : Int32 → Int32 → Int32 → MS → Option (Int32 × MS)} (h32 : S.1 32 = Int32.ofNat G.length) (h30 : G.length ≤ 30) (hr : ∀ (i : Nat) (r : j_R), G[i]? = some r → r_row (S.2 17) i = r) {f k x : Nat} {rf : j_R} (hf : G[f]? = some rf) (hk : k < 5) (hx : x ≤ 30) : ∀ (xs : List j_R) (d j c : Nat), j + xs.length = G.length → (∀ i, xs[i]? = G[j + i]?) → xs.length < d → c ≤ j →
    fn_Md_fact_53 N k32 d (Int32.ofNat x) (Int32.ofNat k) (Int32.ofNat f) (Int32.ofNat c) (Int32.ofNat j) S = if c + xs.countP (r_lt rf) = x then some (r_fld rf k, S) else k32 (Int32.ofNat x) (Int32.ofNat k) (Int32.ofNat (f + 1)) S
  | xs, 0, j, c, hj, hq, hd, hc => absurd hd (by omega)
  | [], d + 1, j, c, hj, hq, hd, hc => by
    have hfl := (List.getElem?_eq_some_iff.mp hf).1
    have hj' : j = G.length := hj
    rw [fe_Md_fact_53, h32, if_pos (n_leT (by omega) (by omega)), List.countP_nil, Nat.add_zero]
    by_cases e : c = x
    · subst e
      rw [if_pos rfl, if_pos rfl, n_5, n_mul, n_add, if_pos (show md_in (Int32.ofNat (5 * f + k)) (md_len 17) = true by rw [n_in (by omega), ml17]; omega), n_nat (by omega), ← hr f rf hf]
      have : r_fld (r_row (S.2 17) f) k = S.2 17 (5 * f + k) := r_fld_row (fun q => S.2 17 (5 * f + q)) k hk
      rw [this]
    · rw [if_neg (n_eqF e (by omega) (by omega)), if_neg e, n_1, n_add]
  | y :: xs, d + 1, j, c, hj, hq, hd, hc => by
    have hfl := (List.getElem?_eq_some_iff.mp hf).1
    simp only [List.length_cons] at hj hd
    have hy : G[j]? = some y := by have := hq 0; rw [Nat.add_zero] at this; rw [← this]; rfl
    have hq' : ∀ i, xs[i]? = G[j + 1 + i]? := fun i => by
      have := hq (i + 1)
      rw [show j + 1 + i = j + (i + 1) by omega, ← this]
      rfl
    rw [fe_Md_fact_53, h32, if_neg (n_leF (by omega) (by omega)), m_before hN (by omega) (by omega), Option.bind_some, hr j y hy, hr f rf hf]
    dsimp only
    unfold fn_Md_fact_79
    cases hl : r_lt rf y with
    | true =>
      rw [if_neg (show ¬ j_b true = 0 from n_ne10), n_1, n_add, n_add, m_fa53 hN h32 h30 hr hf hk hx xs d (j + 1) (c + 1) (by omega) hq' (by omega) (by omega), List.countP_cons_of_pos hl, show c + 1 + xs.countP (r_lt rf) = c + (xs.countP (r_lt rf) + 1) by omega]
    | false =>
      rw [if_pos (show j_b false = 0 from n_e00), n_1, n_0, n_add, n_add, m_fa53 hN h32 h30 hr hf hk hx xs d (j + 1) (c + 0) (by omega) hq' (by omega) (by omega), List.countP_cons_of_neg (by rw [hl]; decide), Nat.add_zero]
theorem m_fa32 (hN : 60 ≤ N) (hS0 : S.1 0 = 0) (h32 : S.1 32 = Int32.ofNat G.length) (h30 : G.length ≤ 30) (hr : ∀ (i : Nat) (r : j_R), G[i]? = some r → r_row (S.2 17) i = r) (hP : Gs.Perm G) (hs : r_srt Gs) (hnd : G.Nodup) {k x : Nat} {rx : j_R} (hk : k < 5) (hx : Gs[x]? = some rx) : ∀ (n d f : Nat), f + n = G.length → n < d → (∀ f', f' < f → ¬ G[f']? = some rx) → fn_Md_fact_32 N d (Int32.ofNat x) (Int32.ofNat k) (Int32.ofNat f) S = some (r_fld rx k, S)
  | n, 0, f, hf, hd, hno => absurd hd (by omega)
  | 0, d + 1, f, hf, hd, hno => by
    have hm : rx ∈ G := hP.subset (List.mem_of_getElem? hx)
    obtain ⟨q, hq⟩ := List.getElem?_of_mem hm
    have := (List.getElem?_eq_some_iff.mp hq).1
    exact absurd hq (hno q (by omega))
  | n + 1, d + 1, f, hf, hd, hno => by
    have hxl := (List.getElem?_eq_some_iff.mp hx).1
    have hlen := hP.length_eq
    obtain ⟨rf, hrf⟩ : ∃ r, G[f]? = some r := ⟨_, List.getElem?_eq_getElem (by omega)⟩
    rw [fe_Md_fact_32, h32, if_neg (n_leF (by omega) (by omega)), if_pos hS0, n_0, m_fa53 hN h32 h30 hr hrf hk (by omega) G N 0 0 (by omega) (fun i => by rw [Nat.zero_add]) (by omega) (Nat.le_refl _), Nat.zero_add]
    have hndS : Gs.Nodup := hP.nodup_iff.mpr hnd
    by_cases e : rf = rx
    · subst e
      rw [if_pos (by rw [← hP.countP_eq]; exact rank_at hs hndS hx)]
    · rw [if_neg (fun q => by
        obtain ⟨z, hz⟩ := List.getElem?_of_mem (hP.symm.subset (List.mem_of_getElem? hrf))
        rw [← hP.countP_eq, rank_at hs hndS hz] at q
        rw [q, hx] at hz
        exact e (Option.some.inj hz).symm)]
      exact m_fa32 hN hS0 h32 h30 hr hP hs hnd hk hx n d (f + 1) (by omega) (by omega) (fun f' hf' q => by
        by_cases c : f' < f
        · exact hno f' c q
        · rw [show f' = f by omega, hrf] at q
          exact e (Option.some.inj q))
theorem m_fact (hN : 1000 ≤ N) (h : mI S lc ln M Bs D Ts K most more re rd un G) (hP : Gs.Perm G) (hs : r_srt Gs) (hnd : G.Nodup) (h30 : G.length ≤ 30) (x1 x2 : Int32) :
    m_out (fn_Md_fact N x1 x2 S) (s_fac x1 x2 Gs) (fun S => mI S lc ln M Bs D Ts K most more re rd un G) (fun S => mI S lc ln M Bs D Ts K most more re rd un G) := by
  have hlen := hP.length_eq
  obtain ⟨-, -, -, h32, hr⟩ := h.2.2.2.2
  have e4 : x2 ≤ Int32.ofInt 4 ↔ x2 < Int32.ofInt 5 := by
    rw [Int32.lt_iff_toInt_lt, Int32.le_iff_toInt_le]
    have e1 : (Int32.ofInt 4).toInt = 4 := by decide
    have e2 : (Int32.ofInt 5).toInt = 5 := by decide
    omega
  have h22 : ∀ y z, fn_Md_fact_22 N y z S = some (Int32.ofInt 0, (va_up S.1 0 (Int32.ofInt 1), S.2)) := fun y z => by
    obtain ⟨N', rfl⟩ : ∃ N', N = N' + 1 := ⟨N - 1, by omega⟩
    unfold fn_Md_fact_22 fn_Md_fact_27
    rw [fe_Md_fact_32]
    have e1 : ¬ (va_up S.1 0 (Int32.ofInt 1), S.2).1 0 = 0 := n_ne10
    rw [if_neg e1]
    unfold fn_Md_fact_111
    split <;> rfl
  unfold s_fac fn_Md_fact fn_Md_fact_0
  rw [h32, hlen]
  by_cases c : fa_no x1 x2 G.length
  · rw [if_pos c]
    by_cases c1 : x1 < 0
    · rw [if_pos c1]
      exact m_thr h (h22 _ _) (by decide)
    rw [if_neg c1]
    by_cases c2 : Int32.ofNat G.length ≤ x1
    · rw [if_pos c2]
      exact m_thr h (h22 _ _) (by decide)
    rw [if_neg c2]
    by_cases c3 : x2 < 0
    · rw [if_pos c3]
      exact m_thr h (h22 _ _) (by decide)
    rw [if_neg c3, if_neg (show ¬ x2 ≤ Int32.ofInt 4 from fun q => by
      rcases c with c | c | c | c
      · exact c1 c
      · exact c2 c
      · exact c3 c
      · exact c (e4.mp q))]
    exact m_thr h (h22 _ _) (by decide)
  · rw [if_neg c]
    have c1 : ¬ x1 < 0 := fun q => c (Or.inl q)
    have c2 : ¬ Int32.ofNat G.length ≤ x1 := fun q => c (Or.inr (Or.inl q))
    have c3 : ¬ x2 < 0 := fun q => c (Or.inr (Or.inr (Or.inl q)))
    have c4 : x2 < Int32.ofInt 5 := Decidable.byContradiction fun q => c (Or.inr (Or.inr (Or.inr q)))
    rw [if_neg c1, if_neg c2, if_neg c3, if_pos (e4.mpr c4)]
    obtain ⟨i, k, hi, hk, rfl, rfl⟩ := fa_nat h30 c
    obtain ⟨r, hr'⟩ : ∃ r, Gs[i]? = some r := ⟨_, List.getElem?_eq_getElem (by omega)⟩
    unfold fn_Md_fact_27
    rw [n_nat (show i < 2147483648 by omega), n_nat (show k < 2147483648 by omega), List.getD_eq_getElem?_getD, hr']
    refine m_val1 h ?_
    rw [n_0]
    exact m_fa32 (S := (va_up S.1 0 (Int32.ofNat 0), S.2)) (by omega) rfl h32 h30 hr hP hs hnd hk hr' G.length N 0 (by omega) (by omega) (fun f' hf' => absurd hf' (by omega))
end FAC
