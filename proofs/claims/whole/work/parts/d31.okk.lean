/-! ### The sizes are kept by issue, append, seal, tamper -/
abbrev w_lk (n : Nat) (l : w_K) : Prop := ∃ b, 1 ≤ b ∧ b ≤ n ∧ l.1 = Int32.ofNat b
section OKK
variable {lc : Nat → Nat} {ln : Nat} {M : List g_Cl} {Bs : List (List g_Cl)} {D : List g_Cl} {Ts : List w_T} {K K' most more : Nat}
theorem ok_snoc (ok : g_ok lc ln M Bs D Ts K most more) (h16 : Ts.length < 16) {T : w_T} (h1 : 1 ≤ T.1.length ∧ T.1.length ≤ 4) (hl : ∀ l, l ∈ T.1 → w_lk Bs.length l) : g_ok lc ln M Bs D (Ts ++ [T]) K' most more := by
  obtain ⟨o1, o2, ⟨o3, o4⟩, o5, ⟨o6, o7⟩, o8⟩ := ok
  have el : (Ts ++ [T]).length = Ts.length + 1 := by rw [List.length_append]; rfl
  refine ⟨o1, o2, ⟨by omega, o4⟩, o5, ⟨by omega, fun T' hT' => ?_⟩, o8⟩
  rcases List.mem_append.mp hT' with h | h
  · exact o7 T' h
  · rw [List.mem_singleton.mp h]
    exact ⟨h1, hl⟩
theorem ok_close (ok : g_ok lc ln M Bs D Ts K most more) (h16 : Ts.length < 16) {T : w_T} (h1 : 1 ≤ T.1.length ∧ T.1.length ≤ 4) (hl : ∀ l, l ∈ T.1 → w_lk (Bs.length + 1) l) : g_ok lc ln [] (Bs ++ [M]) D (Ts ++ [T]) K' most more := by
  obtain ⟨o1, o2, ⟨o3, o4⟩, o5, ⟨o6, o7⟩, o8⟩ := ok
  have el : (Ts ++ [T]).length = Ts.length + 1 := by rw [List.length_append]; rfl
  have eb : (Bs ++ [M]).length = Bs.length + 1 := by rw [List.length_append]; rfl
  refine ⟨o1, ⟨Nat.zero_le _, fun x hx => by cases hx⟩, ⟨by omega, fun L hL => ?_⟩, o5, ⟨by omega, fun T' hT' => ?_⟩, o8⟩
  · rcases List.mem_append.mp hL with h | h
    · exact o4 L h
    · rw [List.mem_singleton.mp h]
      exact o2
  · rcases List.mem_append.mp hT' with h | h
    · refine ⟨(o7 T' h).1, fun l hl' => ?_⟩
      obtain ⟨b, b1, b2, b3⟩ := (o7 T' h).2 l hl'
      exact ⟨b, b1, by omega, b3⟩
    · rw [List.mem_singleton.mp h]
      refine ⟨h1, fun l hl' => ?_⟩
      rw [eb]
      exact hl l hl'
theorem w_nl_ok {T : w_T} (h4 : T.1.length ≤ 3) (hl : ∀ l, l ∈ T.1 → w_lk Bs.length l) (nk : Nat) (x : Int32) : (1 ≤ (w_nl T (Bs.length + 1) nk x).1.length ∧ (w_nl T (Bs.length + 1) nk x).1.length ≤ 4) ∧ ∀ l, l ∈ (w_nl T (Bs.length + 1) nk x).1 → w_lk (Bs.length + 1) l := by
  have el : (w_nl T (Bs.length + 1) nk x).1.length = T.1.length + 1 := by
    show (T.1 ++ [_]).length = _
    rw [List.length_append]; rfl
  refine ⟨by omega, fun l h => ?_⟩
  rcases List.mem_append.mp (show l ∈ T.1 ++ [_] from h) with h | h
  · obtain ⟨b, b1, b2, b3⟩ := hl l h
    exact ⟨b, b1, by omega, b3⟩
  · rw [List.mem_singleton.mp h]
    exact ⟨Bs.length + 1, by omega, by omega, rfl⟩
theorem w_can_in {n : Nat} (hn : n ≤ 4) {how a b : Int32} (h : w_can n how a b = true) (h0 : ¬ how = 0) : (∃ i, i < n ∧ a = Int32.ofNat i) ∧ (how = Int32.ofInt 1 ∨ how = Int32.ofInt 2 → ∃ j, j < n ∧ b = Int32.ofNat j) := by
  unfold w_can at h
  rw [if_neg h0] at h
  simp only [Bool.not_eq_true', Bool.or_eq_false_iff, Bool.and_eq_false_iff, decide_eq_false_iff_not] at h
  obtain ⟨⟨⟨⟨h1, h2⟩, h3⟩, h4⟩, h5⟩ := h
  refine ⟨isT_nat (by omega) (fun q => q.elim h3 h4), fun q => ?_⟩
  rcases h5 with h5 | h5
  · exact (q.elim h5.1 h5.2).elim
  · exact isT_nat (by omega) (fun q => q.elim h5.1 h5.2)
theorem w_k_mem {T : w_T} {i : Nat} (h : i < T.1.length) (h4 : T.1.length ≤ 4) : w_k T (Int32.ofNat i) ∈ T.1 := by
  unfold w_k
  rw [n_nat (by omega), List.getD_eq_getElem?_getD, List.getElem?_eq_getElem h]
  exact List.getElem_mem h
theorem w_set {n : Nat} {L : List w_K} (h : ∀ l, l ∈ L → w_lk n l) {i : Nat} {v : w_K} (hv : w_lk n v) : ∀ l, l ∈ L.set i v → w_lk n l := fun l hl => by
  rcases List.mem_or_eq_of_mem_set hl with h' | h'
  · exact h l h'
  · rw [h']; exact hv
theorem w_tm_ok {T : w_T} (h1 : 1 ≤ T.1.length) (h4 : T.1.length ≤ 4) {n : Nat} (hl : ∀ l, l ∈ T.1 → w_lk n l) {how a b : Int32} (hc : w_can T.1.length how a b = true) (K : Nat) : (1 ≤ (w_tm T how a b n K).1.1.length ∧ (w_tm T how a b n K).1.1.length ≤ 4) ∧ ∀ l, l ∈ (w_tm T how a b n K).1.1 → w_lk n l := by
  have hn : 1 ≤ n := by
    obtain ⟨l, hl'⟩ : ∃ l, T.1[0]? = some l := ⟨_, List.getElem?_eq_getElem (by omega)⟩
    obtain ⟨b, b1, b2, -⟩ := hl l (List.mem_of_getElem? hl')
    omega
  unfold w_tm
  by_cases c0 : how = 0
  · rw [if_pos c0]
    have : ¬ Int32.ofNat T.1.length ≤ Int32.ofInt 1 := by
      unfold w_can at hc
      rw [if_pos c0] at hc
      simpa using hc
    rw [n_1, n_le (by omega) (by omega)] at this
    refine ⟨?_, fun l h => hl l (List.mem_of_mem_take h)⟩
    show 1 ≤ (T.1.take (T.1.length - 1)).length ∧ (T.1.take (T.1.length - 1)).length ≤ 4
    rw [List.length_take]
    omega
  obtain ⟨⟨i, hi, rfl⟩, hb⟩ := w_can_in h4 hc c0
  have ka := hl _ (w_k_mem hi h4)
  rw [if_neg c0]
  by_cases c1 : how = 1
  · rw [if_pos c1]
    obtain ⟨j, hj, rfl⟩ := hb (Or.inl c1)
    have kb := hl _ (w_k_mem hj h4)
    refine ⟨?_, w_set (w_set hl (i := (Int32.ofNat i).toNatClampNeg) (v := ((w_k T (Int32.ofNat j)).1, (w_k T (Int32.ofNat i)).2)) kb) ka⟩
    show 1 ≤ ((T.1.set _ _).set _ _).length ∧ ((T.1.set _ _).set _ _).length ≤ 4
    rw [List.length_set, List.length_set]
    exact ⟨h1, h4⟩
  rw [if_neg c1]
  by_cases c2 : how = 2
  · rw [if_pos c2]
    obtain ⟨j, hj, rfl⟩ := hb (Or.inr c2)
    have kb := hl _ (w_k_mem hj h4)
    refine ⟨?_, w_set (w_set hl kb) ka⟩
    show 1 ≤ ((T.1.set _ _).set _ _).length ∧ ((T.1.set _ _).set _ _).length ≤ 4
    rw [List.length_set, List.length_set]
    exact ⟨h1, h4⟩
  rw [if_neg c2]
  by_cases c3 : how = 3
  · rw [if_pos c3]
    refine ⟨?_, w_set hl ⟨n, hn, Nat.le_refl _, rfl⟩⟩
    show 1 ≤ (T.1.set _ _).length ∧ (T.1.set _ _).length ≤ 4
    rw [List.length_set]
    exact ⟨h1, h4⟩
  rw [if_neg c3]
  by_cases c4 : how = 4
  · rw [if_pos c4]
    refine ⟨?_, w_set hl ka⟩
    show 1 ≤ (T.1.set _ _).length ∧ (T.1.set _ _).length ≤ 4
    rw [List.length_set]
    exact ⟨h1, h4⟩
  rw [if_neg c4]
  by_cases c5 : how = 5
  · rw [if_pos c5]
    refine ⟨?_, fun l h => w_set hl (i := (Int32.ofNat i).toNatClampNeg) (v := ((w_k T (Int32.ofNat i)).1, Int32.ofNat (K + 1), (w_k T (Int32.ofNat i)).2.2)) ka l (List.mem_of_mem_take h)⟩
    show 1 ≤ ((T.1.set _ _).take _).length ∧ ((T.1.set _ _).take _).length ≤ 4
    rw [List.length_take, List.length_set]
    omega
  rw [if_neg c5]
  refine ⟨?_, w_set hl ka⟩
  show 1 ≤ (T.1.set _ _).length ∧ (T.1.set _ _).length ≤ 4
  rw [List.length_set]
  exact ⟨h1, h4⟩
theorem ok_issue (ok : g_ok lc ln M Bs D Ts K most more) {x : Int32} (h : (s_iss x Ts).2 = Int32.ofInt 0) : g_ok lc ln [] (Bs ++ [M]) D (Ts ++ [w_nl ([], false, 0, 0) (Bs.length + 1) (K + 1) x]) (K + 1) most more := by
  have h16 : Ts.length < 16 := by
    have := ok.2.2.2.2.1.1
    unfold s_iss at h
    by_cases c1 : x < Int32.ofInt 1
    · rw [if_pos c1] at h; exact absurd h (by decide)
    · rw [if_neg c1] at h
      by_cases c2 : Int32.ofInt 3 < x
      · rw [if_pos c2] at h; exact absurd h (by decide)
      · rw [if_neg c2] at h
        by_cases c3 : Ts.length = 16
        · rw [if_pos c3] at h; exact absurd h (by decide)
        · omega
  obtain ⟨a, b⟩ := w_nl_ok (Bs := Bs) (T := ([], false, 0, 0)) (Nat.zero_le _) (fun l hl => by cases hl) (K + 1) x
  exact ok_close ok h16 a b
theorem ok_append (ok : g_ok lc ln M Bs D Ts K most more) {x : Int32} (h : (s_app x Ts).2 = Int32.ofInt 0) : g_ok lc ln [] (Bs ++ [M]) D (Ts ++ [w_nl (w_at Ts x) (Bs.length + 1) (K + 1) (w_at Ts x).2.2.1]) (K + 1) most more := by
  have hT := ok.2.2.2.2.1
  unfold s_app at h
  by_cases c1 : w_no Ts x
  · rw [if_pos c1] at h; exact absurd h (by decide)
  rw [if_neg c1] at h
  by_cases c2 : (w_at Ts x).2.1 = true ∨ (w_at Ts x).1.length = 4 ∨ Ts.length = 16
  · rw [if_pos c2] at h; exact absurd h (by decide)
  obtain ⟨i, -, -, hg⟩ := w_at_get hT.1 c1
  obtain ⟨⟨t1, t4⟩, tl⟩ := hT.2 _ (List.mem_of_getElem? hg)
  have h4 : ¬ (w_at Ts x).1.length = 4 := fun q => c2 (Or.inr (Or.inl q))
  have h16 : ¬ Ts.length = 16 := fun q => c2 (Or.inr (Or.inr q))
  obtain ⟨a, b⟩ := w_nl_ok (Bs := Bs) (T := w_at Ts x) (by omega) tl (K + 1) (w_at Ts x).2.2.1
  exact ok_close ok (by omega) a b
theorem ok_seal (ok : g_ok lc ln M Bs D Ts K most more) {x : Int32} (h : (s_sea x Ts).2 = Int32.ofInt 0) : g_ok lc ln M Bs D (Ts ++ [((w_at Ts x).1, true, (w_at Ts x).2.2.1, Int32.ofNat (w_at Ts x).1.length)]) K most more := by
  have hT := ok.2.2.2.2.1
  unfold s_sea at h
  by_cases c1 : w_no Ts x
  · rw [if_pos c1] at h; exact absurd h (by decide)
  rw [if_neg c1] at h
  by_cases c2 : (w_at Ts x).2.1 = true ∨ Ts.length = 16
  · rw [if_pos c2] at h; exact absurd h (by decide)
  obtain ⟨i, -, -, hg⟩ := w_at_get hT.1 c1
  obtain ⟨t1, tl⟩ := hT.2 _ (List.mem_of_getElem? hg)
  have h16 : ¬ Ts.length = 16 := fun q => c2 (Or.inr q)
  exact ok_snoc ok (by omega) t1 tl
theorem ok_tamper (ok : g_ok lc ln M Bs D Ts K most more) {x how a b : Int32} (h : (s_tam x how a b Ts).2 = Int32.ofInt 0) : g_ok lc ln M Bs D (Ts ++ [(w_tm (w_at Ts x) how a b Bs.length K).1]) (w_tm (w_at Ts x) how a b Bs.length K).2 most more := by
  have hT := ok.2.2.2.2.1
  unfold s_tam at h
  by_cases c1 : w_no Ts x
  · rw [if_pos c1] at h; exact absurd h (by decide)
  rw [if_neg c1] at h
  by_cases c2 : w_can (w_at Ts x).1.length how a b = false
  · rw [if_pos c2] at h; exact absurd h (by decide)
  rw [if_neg c2] at h
  by_cases c3 : Ts.length = 16 ∨ (how = (Int8.ofInt (6)).toInt32 ∧ (w_at Ts x).2.1 = true)
  · rw [if_pos c3] at h; exact absurd h (by decide)
  obtain ⟨i, -, -, hg⟩ := w_at_get hT.1 c1
  obtain ⟨⟨t1, t4⟩, tl⟩ := hT.2 _ (List.mem_of_getElem? hg)
  have h16 : ¬ Ts.length = 16 := fun q => c3 (Or.inl q)
  obtain ⟨p, q⟩ := w_tm_ok t1 t4 tl (by simpa using c2) K
  exact ok_snoc ok (by omega) p q
end OKK
