/-! ### tamper: the reference's side, whole -/
section MT2
variable {N : Nat} {S : MS} {lc : Nat → Nat} {ln : Nat} {M : List g_Cl} {Bs : List (List g_Cl)} {D : List g_Cl} {Ts : List w_T} {K most more : Nat} {re : Int32} {rd : Nat} {un : Int32} {G : List j_R}
theorem m_tm104a (x1 x2 x3 x4 x7 s0 : Int32) : fn_Md_tamper_104 N x1 x2 x3 x4 (Int32.ofInt 0) x7 s0 S = fn_Md_tamper_155 N x1 x2 x3 x4 (Int32.ofInt 1) S := by
  unfold fn_Md_tamper_104 fn_Md_tamper_122
  rw [if_pos n_e00]
theorem m_tm75a (x1 x2 x3 x4 x6 s0 : Int32) : fn_Md_tamper_75 N x1 x2 x3 x4 (Int32.ofInt 0) x6 s0 S = fn_Md_tamper_155 N x1 x2 x3 x4 (Int32.ofInt 1) S := by
  unfold fn_Md_tamper_75 fn_Md_tamper_87 fn_Md_tamper_99 fn_Md_tamper_103
  simp only [m_tm104a, ite_self]
theorem m_tm40a (x1 x2 x3 x4 s0 : Int32) : fn_Md_tamper_40 N x1 x2 x3 x4 (Int32.ofInt 0) s0 S = fn_Md_tamper_155 N x1 x2 x3 x4 (Int32.ofInt 1) S := by
  unfold fn_Md_tamper_40 fn_Md_tamper_74
  simp only [m_tm75a, ite_self]
theorem m_tm22 (x1 x2 x3 x4 : Int32) : fn_Md_tamper_22 N x1 x2 x3 x4 S = fn_Md_tamper_155 N x1 x2 x3 x4 (Int32.ofInt 1) S := by
  unfold fn_Md_tamper_22 fn_Md_tamper_23
  rw [if_pos n_e00, m_tm40a]
theorem m_tm104b (x1 x2 x3 x4 x7 s0 : Int32) (h : x7 = Int32.ofInt 0 ∨ s0 = Int32.ofInt 0) : fn_Md_tamper_104 N x1 x2 x3 x4 (Int32.ofInt 1) x7 s0 S = fn_Md_tamper_155 N x1 x2 x3 x4 (Int32.ofInt 1) S := by
  unfold fn_Md_tamper_104 fn_Md_tamper_122
  rw [if_neg n_ne10]
  rcases h with h | h
  · rw [if_pos (show x7 = 0 from h)]
  · by_cases e : x7 = 0
    · rw [if_pos e]
    · rw [if_neg e, if_pos (show s0 = 0 from h)]
theorem m_tm75b (x1 x2 x3 x4 x6 : Int32) : fn_Md_tamper_75 N x1 x2 x3 x4 (Int32.ofInt 1) x6 (Int32.ofInt 0) S = fn_Md_tamper_155 N x1 x2 x3 x4 (Int32.ofInt 1) S := by
  unfold fn_Md_tamper_75 fn_Md_tamper_87 fn_Md_tamper_99 fn_Md_tamper_103
  simp only [m_tm104b _ _ _ _ _ _ (Or.inl rfl), ite_self]
/-- what is asked after the numbers are found good -/
def m_go (N : Nat) (x1 x2 x3 x4 : Int32) (S : MS) : Option (Int32 × MS) := fn_Md_tamper_104 N x1 x2 x3 x4 (Int32.ofInt 1) (Int32.ofInt 1) (Int32.ofInt 1) S
theorem m_tm75c (x1 x2 x3 x4 : Int32) (n : Nat) : fn_Md_tamper_75 N x1 x2 x3 x4 (Int32.ofInt 1) (Int32.ofNat n) (Int32.ofInt 1) S = if ((decide (x2 = Int32.ofInt 1) || decide (x2 = Int32.ofInt 2)) && (decide (x4 < 0) || decide (Int32.ofNat n ≤ x4))) = true then fn_Md_tamper_155 N x1 x2 x3 x4 (Int32.ofInt 1) S else m_go N x1 x2 x3 x4 S := by
  unfold fn_Md_tamper_75 fn_Md_tamper_87 fn_Md_tamper_99 fn_Md_tamper_103 m_go
  rw [m_tm104b x1 x2 x3 x4 (Int32.ofInt 1) (Int32.ofInt 0) (Or.inr rfl)]
  have h87 : (if x4 < 0 then fn_Md_tamper_155 N x1 x2 x3 x4 (Int32.ofInt 1) S else if Int32.ofNat n ≤ x4 then fn_Md_tamper_155 N x1 x2 x3 x4 (Int32.ofInt 1) S else fn_Md_tamper_104 N x1 x2 x3 x4 (Int32.ofInt 1) (Int32.ofInt 1) (Int32.ofInt 1) S) = if (decide (x4 < 0) || decide (Int32.ofNat n ≤ x4)) = true then fn_Md_tamper_155 N x1 x2 x3 x4 (Int32.ofInt 1) S else fn_Md_tamper_104 N x1 x2 x3 x4 (Int32.ofInt 1) (Int32.ofInt 1) (Int32.ofInt 1) S := by
    by_cases c1 : x4 < 0
    · rw [if_pos c1, decide_eq_true c1]; rfl
    · rw [if_neg c1, decide_eq_false c1]
      by_cases c2 : Int32.ofNat n ≤ x4
      · rw [if_pos c2, decide_eq_true c2]; rfl
      · rw [if_neg c2, decide_eq_false c2]; rfl
  rw [h87]
  by_cases e1 : x2 = Int32.ofInt 1
  · rw [if_pos e1, decide_eq_true e1, Bool.true_or, Bool.true_and]
  · rw [if_neg e1, decide_eq_false e1, Bool.false_or]
    by_cases e2 : x2 = Int32.ofInt 2
    · rw [if_pos e2, decide_eq_true e2, Bool.true_and]
    · rw [if_neg e2, decide_eq_false e2, Bool.false_and]
      rfl
theorem m_tm40 (x1 x2 x3 x4 : Int32) (n : Nat) (h0 : ¬ x2 < 0) (h6 : ¬ (Int8.ofInt (6)).toInt32 < x2) : fn_Md_tamper_40 N x1 x2 x3 x4 (Int32.ofInt 1) (Int32.ofNat n) S = if w_can n x2 x3 x4 = false then fn_Md_tamper_155 N x1 x2 x3 x4 (Int32.ofInt 1) S else m_go N x1 x2 x3 x4 S := by
  unfold fn_Md_tamper_40 fn_Md_tamper_74 w_can
  rw [m_tm75b, m_tm75c]
  by_cases e0 : x2 = 0
  · have d1 : decide (x2 = Int32.ofInt 1) = false := decide_eq_false (by rw [e0]; decide)
    have d2 : decide (x2 = Int32.ofInt 2) = false := decide_eq_false (by rw [e0]; decide)
    rw [if_pos e0, if_pos e0, d1, d2]
    by_cases c1 : Int32.ofNat n ≤ Int32.ofInt 1
    · rw [if_pos c1, decide_eq_true c1]; rfl
    · rw [if_neg c1, decide_eq_false c1]; rfl
  · have d0 : decide (x2 ≤ 0) = false := decide_eq_false (fun q => by
      rw [Int32.le_iff_toInt_le] at q
      rw [Int32.lt_iff_toInt_lt] at h0
      exact e0 (Int32.toInt_inj.mp (by omega)))
    rw [if_neg e0, if_neg e0, d0, decide_eq_false h6]
    by_cases c1 : x3 < 0
    · rw [if_pos c1, decide_eq_true c1]; rfl
    rw [if_neg c1, decide_eq_false c1]
    by_cases c2 : Int32.ofNat n ≤ x3
    · rw [if_pos c2, decide_eq_true c2]; rfl
    rw [if_neg c2, decide_eq_false c2]
    generalize ((decide (x2 = Int32.ofInt 1) || decide (x2 = Int32.ofInt 2)) && (decide (x4 < 0) || decide (Int32.ofNat n ≤ x4))) = bb
    cases bb <;> rfl
theorem m_tamper (hN : 60 ≤ N) (h : mI S lc ln M Bs D Ts K most more re rd un G) (ok : g_ok lc ln M Bs D Ts K most more) (x how a b : Int32) : m_out (fn_Md_tamper N x how a b S) (s_tam x how a b Ts) (fun S => mI S lc ln M Bs D Ts K most more re rd un G) (fun S => mI S lc ln M Bs D (Ts ++ [(w_tm (w_at Ts x) how a b Bs.length K).1]) (w_tm (w_at Ts x) how a b Bs.length K).2 most more re rd un G) := by
  have hT16 := ok.2.2.2.2.1.1
  have h9 := h.1.2.2.2.2.2
  unfold fn_Md_tamper fn_Md_tamper_0 s_tam
  rw [m_isT h, Option.bind_some]
  dsimp only
  rw [m_tm22]
  by_cases c1 : w_no Ts x
  · rw [if_pos c1, if_pos (show x < 0 ∨ Int32.ofNat Ts.length ≤ x from c1), if_pos n_e00]
    exact m_thr h (m_tm155r (by decide) _ _ _ _) (by decide)
  obtain ⟨i, hi, hx, hg⟩ := w_at_get hT16 c1
  have ht1 := h.2.2.2.1.1 i _ hg
  rw [if_neg c1, if_neg (show ¬ (x < 0 ∨ Int32.ofNat Ts.length ≤ x) from c1), if_neg n_ne10]
  generalize hW : w_at Ts x = T at *
  subst hx
  by_cases c2 : how < 0
  · have hc : w_can T.1.length how a b = false := by
      unfold w_can
      have e0 : ¬ how = 0 := fun q => by rw [q] at c2; exact absurd c2 (by decide)
      have d0 : decide (how ≤ 0) = true := decide_eq_true (by
        rw [Int32.lt_iff_toInt_lt] at c2
        rw [Int32.le_iff_toInt_le]
        omega)
      rw [if_neg e0, d0]
      rfl
    rw [if_pos c2, if_pos hc]
    exact m_thr h (m_tm155r (by decide) _ _ _ _) (by decide)
  rw [if_neg c2]
  by_cases c3 : (Int8.ofInt (6)).toInt32 < how
  · have hc : w_can T.1.length how a b = false := by
      unfold w_can
      have e0 : ¬ how = 0 := fun q => by rw [q] at c3; exact absurd c3 (by decide)
      rw [if_neg e0, decide_eq_true c3, Bool.or_true]
      rfl
    rw [if_pos c3, if_pos hc]
    exact m_thr h (m_tm155r (by decide) _ _ _ _) (by decide)
  rw [if_neg c3]
  unfold fn_Md_tamper_23
  rw [if_neg n_ne10, if_pos (show md_in (Int32.ofNat i) (md_len 4) = true by rw [n_in (by omega), mL4]; omega), n_nat (by omega), ht1.1, m_tm40 _ _ _ _ _ c2 c3]
  cases hc : w_can T.1.length how a b with
  | false =>
    rw [if_pos rfl, if_pos rfl]
    exact m_thr h (m_tm155r (by decide) _ _ _ _) (by decide)
  | true =>
    rw [if_neg (by decide), if_neg (by decide)]
    unfold m_go fn_Md_tamper_104 fn_Md_tamper_150 fn_Md_tamper_154
    rw [if_neg n_ne10, if_neg n_ne10, if_neg n_ne10, h9, n_c16]
    by_cases c5 : Ts.length = 16
    · rw [if_pos (n_eqT c5), if_pos (Or.inl c5)]
      exact m_thr h (m_tm155r (by decide) _ _ _ _) (by decide)
    rw [if_neg (n_eqF c5 (by omega) (by omega))]
    obtain ⟨S', k1, k2, k3⟩ := m_tm155 hN h ok (by omega) hg hc
    by_cases c6 : how = (Int8.ofInt (6)).toInt32
    · rw [if_pos c6, if_pos (show md_in (Int32.ofNat i) (md_len 6) = true by rw [n_in (by omega), mL6]; omega), n_nat (by omega), ht1.2.1]
      cases hs : T.2.1 with
      | true =>
        rw [if_neg (show ¬ j_b true = 0 from n_ne10), if_pos (Or.inr ⟨c6, rfl⟩)]
        exact m_thr h (m_tm155r (by decide) _ _ _ _) (by decide)
      | false =>
        rw [if_pos (show j_b false = 0 from n_e00), if_neg (show ¬ (Ts.length = 16 ∨ how = (Int8.ofInt (6)).toInt32 ∧ false = true) from fun q => by rcases q with q | q; exact c5 q; exact absurd q.2 (by decide))]
        exact ⟨S', k1, k2, Or.inl ⟨rfl, k3⟩⟩
    · rw [if_neg c6, if_neg (show ¬ (Ts.length = 16 ∨ how = (Int8.ofInt (6)).toInt32 ∧ T.2.1 = true) from fun q => by rcases q with q | q; exact c5 q; exact c6 q.1)]
      exact ⟨S', k1, k2, Or.inl ⟨rfl, k3⟩⟩
end MT2
