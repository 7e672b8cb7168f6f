/-! ### The reference's line: here, next, peek, number, term -/
def q_ok (c : Nat → Nat) (n t sl : Nat) (S : MS) : Prop := S.1 17 = Int32.ofNat (40 * t) ∧ S.1 18 = Int32.ofNat n ∧ S.1 19 = Int32.ofNat sl ∧ n ≤ 40 ∧ t ≤ 95 ∧ sl ≤ 30 ∧ ∀ i, i < n → S.2 1 (40 * t + i) = Int32.ofNat (c i) ∧ 32 ≤ c i ∧ c i ≤ 126
theorem ml1 : md_len 1 = 3840 := rfl
theorem ml12 : md_len 12 = 31 := rfl
theorem ml13 : md_len 13 = 496 := rfl
theorem ml14 : md_len 14 = 31 := rfl
theorem ml15 : md_len 15 = 1488 := rfl
theorem ml16 : md_len 16 = 48 := rfl
theorem q_h_le {c : Nat → Nat} {n t sl : Nat} {S : MS} (k : q_ok c n t sl S) (p : Nat) : g_h c n p ≤ 126 := by
  unfold g_h g_c
  split
  · next h2 => exact (k.2.2.2.2.2.2 _ h2).2.2
  · omega
section ML
variable {N : Nat} {c : Nat → Nat} {n t sl : Nat} {S : MS} {p s : Nat} {w b o : Int32} {a12 a13 a14 a15 a16 : Nat → Int32}
theorem m_here0 (k : q_ok c n t sl S) : ∀ (d p : Nat), n + 1 < p + d → p ≤ n + 1 → fn_Md_here_0 N d (qs S p w b o s a12 a13 a14 a15 a16) = some (Int32.ofNat (g_h c n p), qs S (g_s c n p) w b o s a12 a13 a14 a15 a16)
  | 0, p, hd, hp => absurd hd (by omega)
  | d + 1, p, hd, hp => by
    obtain ⟨k1, k2, k3, k4, k5, k6, k7⟩ := k
    unfold fn_Md_here_0 fn_Md_here_43 fn_Md_here_72
    simp only [qs_g16, qs_g17, qs_g18, qs_h1, k1, k2]
    rcases Nat.lt_or_ge p n with h2 | h2
    · obtain ⟨hf, hc1, hc2⟩ := k7 p h2
      rw [if_neg (n_leF h2 (by omega)), n_add, if_pos (by rw [n_in (by omega), ml1]; omega), n_nat (by omega), hf, n_c32, n_1, n_add]
      by_cases e : c p = 32
      · rw [if_pos (n_eqT e), qs_s16, m_here0 ⟨k1, k2, k3, k4, k5, k6, k7⟩ d (p + 1) (by omega) (by omega)]
        unfold g_h
        rw [← g_s_step h2 e]
      · rw [if_neg (n_eqF e (by omega) (by omega)), if_neg (n_leF h2 (by omega)), if_pos (by rw [n_in (by omega), ml1]; omega)]
        unfold g_h g_c
        rw [g_s_here h2 e, if_pos h2]
    · rw [if_pos (n_leT h2 (by omega)), if_pos (n_leT h2 (by omega))]
      unfold g_h g_c
      rw [g_s_end h2, if_neg (by omega)]
      rfl
theorem m_here (k : q_ok c n t sl S) (hN : 45 ≤ N) (hp : p ≤ n + 1) : fn_Md_here N (qs S p w b o s a12 a13 a14 a15 a16) = some (Int32.ofNat (g_h c n p), qs S (g_s c n p) w b o s a12 a13 a14 a15 a16) :=
  m_here0 k N p (by have := k.2.2.2.1; omega) hp
theorem m_next (k : q_ok c n t sl S) (hN : 45 ≤ N) (hp : p ≤ n + 1) {x : Nat} (hx : x < 2147483648) : fn_Md_next N (Int32.ofNat x) (qs S p w b o s a12 a13 a14 a15 a16) = match g_t c n p x with
    | some q => some (Int32.ofInt 1, qs S q w b o s a12 a13 a14 a15 a16)
    | none => some (Int32.ofInt 0, qs S (g_s c n p) w b o s a12 a13 a14 a15 a16) := by
  have hh := q_h_le k p
  unfold fn_Md_next fn_Md_next_0 fn_Md_next_13 fn_Md_next_32 g_t
  rw [m_here k hN hp, Option.bind_some]
  dsimp only
  by_cases e : g_h c n p = x
  · rw [if_pos (n_eqT e), if_neg n_ne10, if_pos n_b1, qs_g16, n_1, n_add, qs_s16, if_pos e]
  · rw [if_neg (n_eqF e (by omega) hx), if_pos n_e00, if_pos n_b0, qs_g16, qs_s16, if_neg e]
theorem m_peek (k : q_ok c n t sl S) {i : Nat} (hi : i ≤ n + 1) : fn_Md_peek N (Int32.ofNat i) (qs S p w b o s a12 a13 a14 a15 a16) = some (Int32.ofNat (g_c c n i), qs S p w b o s a12 a13 a14 a15 a16) := by
  obtain ⟨k1, k2, k3, k4, k5, k6, k7⟩ := k
  unfold fn_Md_peek fn_Md_peek_0 fn_Md_peek_23 g_c
  simp only [qs_g17, qs_g18, qs_h1, k1, k2]
  rcases Nat.lt_or_ge i n with h2 | h2
  · rw [if_neg (n_leF h2 (by omega)), n_add, if_pos (by rw [n_in (by omega), ml1]; omega), n_nat (by omega), (k7 i h2).1, if_pos h2]
  · rw [if_pos (n_leT h2 (by omega)), if_neg (by omega)]; rfl
theorem m_digit {x : Nat} (hx : x ≤ 126) : fn_Md_digit N (Int32.ofNat x) = some (if 48 ≤ x ∧ x ≤ 57 then Int32.ofInt 1 else Int32.ofInt 0) := by
  unfold fn_Md_digit fn_Md_digit_0 fn_Md_digit_16 fn_Md_digit_17
  rw [n_c48, n_c57]
  by_cases e1 : x < 48
  · rw [if_pos (n_ltT e1 (by omega)), if_pos n_b0, if_neg (by omega)]
  · rw [if_neg (n_ltF (by omega) (by omega))]
    by_cases e2 : 57 < x
    · rw [if_pos (n_ltT e2 (by omega)), if_pos n_b0, if_neg (by omega)]
    · rw [if_neg (n_ltF (by omega) (by omega)), if_pos n_b1, if_pos (by omega)]
theorem m_num56 (v j : Nat) (hj : j ≤ 5) : fn_Md_number_56 N (Int32.ofNat v) (Int32.ofNat j) (qs S p (Int32.ofInt 0) b o s a12 a13 a14 a15 a16) = some (Int32.ofNat v, qs S p (if j = 0 ∨ j = 5 then Int32.ofInt 1 else Int32.ofInt 0) b o s a12 a13 a14 a15 a16) := by
  unfold fn_Md_number_56 fn_Md_number_73 fn_Md_number_78
  rw [qs_g20, if_pos n_e00]
  by_cases e0 : j = 0
  · subst e0
    rw [if_pos (show Int32.ofNat 0 = 0 from rfl), if_pos n_b1, if_pos (Or.inl rfl), qs_s20]
  · rw [if_neg (n_ne0 (by omega) (by omega))]
    by_cases e5 : j = 5
    · subst e5
      rw [n_4, if_neg (n_leF (by omega) (by omega)), if_pos n_b1, if_pos (Or.inr rfl), qs_s20]
    · rw [n_4, if_pos (n_leT (by omega) (by omega)), if_pos n_b0, if_neg (by omega), qs_s20]
theorem m_num4 (k : q_ok c n t sl S) : ∀ (d r j v : Nat), 6 ≤ d + j → j ≤ 5 → r + j ≤ n →
    fn_Md_number_4 N d (Int32.ofNat v) (Int32.ofNat j) (qs S (r + j) (Int32.ofInt 0) b o s a12 a13 a14 a15 a16) = some (Int32.ofNat (g_dv c (g_dc c n (5 - j) (r + j)) (r + j) v), qs S (r + j + g_dc c n (5 - j) (r + j)) (if j + g_dc c n (5 - j) (r + j) = 0 ∨ j + g_dc c n (5 - j) (r + j) = 5 then Int32.ofInt 1 else Int32.ofInt 0) b o s a12 a13 a14 a15 a16)
  | 0, r, j, v, hd, hj, hr => absurd hd (by omega)
  | d + 1, r, j, v, hd, hj, hr => by
    have kn := k.2.2.2.1
    have hc : g_c c n (r + j) ≤ 126 := by
      unfold g_c
      split
      · next h2 => exact (k.2.2.2.2.2.2 _ h2).2.2
      · omega
    unfold fn_Md_number_4
    rw [qs_g16, m_peek k (by omega), Option.bind_some]
    dsimp only
    rw [m_digit hc, Option.bind_some]
    by_cases e : 48 ≤ g_c c n (r + j) ∧ g_c c n (r + j) ≤ 57
    · rw [if_pos e, if_neg n_ne10, n_5]
      have hlt : r + j < n := by
        unfold g_c at e
        split at e
        · assumption
        · omega
      have hcc : g_c c n (r + j) = c (r + j) := if_pos hlt
      by_cases e5 : j = 5
      · subst e5
        rw [if_pos (n_leT (by omega) (by omega)), m_num56 _ _ (by omega)]
        rfl
      · rw [if_neg (n_leF (by omega) (by omega)), qs_g16, m_peek k (by omega), Option.bind_some]
        dsimp only
        rw [qs_g16, n_1, n_add, n_add, qs_s16, n_c10, n_mul, n_add, n_c48, n_sub (by rw [hcc] at e ⊢; omega)]
        have ih := m_num4 k d r (j + 1) (10 * v + g_c c n (r + j) - 48) (by omega) (by omega) (by omega)
        rw [show r + (j + 1) = r + j + 1 by omega, show 5 - (j + 1) = 4 - j by omega] at ih
        rw [ih, show 5 - j = (4 - j) + 1 by omega]
        have eg : g_dc c n (4 - j + 1) (r + j) = g_dc c n (4 - j) (r + j + 1) + 1 := if_pos (by rw [hcc] at e; omega)
        rw [eg]
        have ev : g_dv c (g_dc c n (4 - j) (r + j + 1) + 1) (r + j) v = g_dv c (g_dc c n (4 - j) (r + j + 1)) (r + j + 1) (10 * v + g_c c n (r + j) - 48) := by
          show g_dv c _ (r + j + 1) (v * 10 + (c (r + j) - 48)) = _
          rw [hcc, show v * 10 + (c (r + j) - 48) = 10 * v + c (r + j) - 48 by rw [hcc] at e; omega]
        rw [ev, show r + j + 1 + g_dc c n (4 - j) (r + j + 1) = r + j + (g_dc c n (4 - j) (r + j + 1) + 1) by omega, show j + 1 + g_dc c n (4 - j) (r + j + 1) = j + (g_dc c n (4 - j) (r + j + 1) + 1) by omega]
        rfl
    · rw [if_neg e, if_pos n_e00, m_num56 _ _ hj]
      have e0 : g_dc c n (5 - j) (r + j) = 0 := by
        cases h5 : 5 - j with
        | zero => rfl
        | succ i =>
          refine if_neg (fun q => e ?_)
          unfold g_c
          rw [if_pos q.1]
          exact q.2
      rw [e0]
      rfl
theorem m_number (k : q_ok c n t sl S) (hN : 45 ≤ N) (hp : p ≤ n) : match g_d c n p with
    | some r => fn_Md_number N (qs S p (Int32.ofInt 0) b o s a12 a13 a14 a15 a16) = some (Int32.ofNat r.1, qs S r.2 (Int32.ofInt 0) b o s a12 a13 a14 a15 a16)
    | none => ∃ v q, v < 100000 ∧ q ≤ n ∧ fn_Md_number N (qs S p (Int32.ofInt 0) b o s a12 a13 a14 a15 a16) = some (Int32.ofNat v, qs S q (Int32.ofInt 1) b o s a12 a13 a14 a15 a16) := by
  have key := m_num4 (N := N) (b := b) (o := o) (s := s) (a12 := a12) (a13 := a13) (a14 := a14) (a15 := a15) (a16 := a16) k N p 0 0 (by omega) (by omega) (by omega)
  unfold fn_Md_number fn_Md_number_0
  rw [n_0] at *
  simp only [Nat.zero_add, Nat.add_zero, Nat.sub_zero] at key
  have hdc := (g_dc_le c n 5 p).2 hp
  unfold g_d
  by_cases e : g_dc c n 5 p = 0 ∨ g_dc c n 5 p = 5
  · rw [if_pos e] at key ⊢
    have hlt := g_dv_lt c n (g_dc c n 5 p) 5 p 0 (Nat.le_refl _)
    have hpw : 10 ^ (g_dc c n 5 p) ≤ 10 ^ 5 := Nat.pow_le_pow_right (by omega) (g_dc_le c n 5 p).1
    exact ⟨_, _, by omega, hdc, key⟩
  · rw [if_neg e] at key ⊢
    exact key
/-- a term as the reference keeps it -/
def g_te (t : Int) : Int := if t < 1048576 then 10000 + t else 100000 + (t - 1048576)
theorem m_term (k : q_ok c n t sl S) (hN : 45 ≤ N) (hp : p ≤ n) : match g_tm c n p with
    | some r => fn_Md_term N (qs S p (Int32.ofInt 0) b o s a12 a13 a14 a15 a16) = some (Int32.ofInt (g_te r.1), qs S r.2 (Int32.ofInt 0) (b ||| g_bit r.1) o s a12 a13 a14 a15 a16)
    | none => ∃ v q, q ≤ n ∧ fn_Md_term N (qs S p (Int32.ofInt 0) b o s a12 a13 a14 a15 a16) = some (v, qs S q (Int32.ofInt 1) b o s a12 a13 a14 a15 a16) := by
  have hh := q_h_le k p
  have hs := g_s_le (c := c) hp
  unfold fn_Md_term fn_Md_term_0 g_tm
  rw [m_here k hN (by omega), Option.bind_some]
  dsimp only
  rw [n_c65, n_c72]
  by_cases e1 : 65 ≤ g_h c n p ∧ g_h c n p ≤ 72
  · rw [if_pos e1, if_neg (n_ltF (by omega) (by omega)), if_neg (n_ltF (by omega) (by omega)), qs_g16, n_1, n_add, qs_u16, qs_g26, qs_u26, qs_pr, n_sub e1.1]
    have hg : g_bit (1048576 + ((g_h c n p - 65 : Nat) : Int)) = Int32.ofNat 1 <<< (Int32.ofNat (g_h c n p - 65) &&& 31) := by
      unfold g_bit
      rw [if_neg (by omega), Int32.ofInt_add]
      show Int32.ofInt 1 <<< (((1048576 : Int32) + Int32.ofNat (g_h c n p - 65) - 1048576) &&& 31) = _
      rw [Int32.add_comm, Int32.add_sub_cancel]
      rfl
    have he : g_te (1048576 + ((g_h c n p - 65 : Nat) : Int)) = ((100000 + (g_h c n p - 65) : Nat) : Int) := by
      unfold g_te
      rw [if_neg (by omega)]; omega
    dsimp only
    rw [hg, he, show (100000 : Int32) = Int32.ofNat 100000 from rfl, n_add, n_sub (by omega), show 100000 + g_h c n p - 65 = 100000 + (g_h c n p - 65) by omega]
    rfl
  · rw [if_neg e1]
    have e50 : (if Int32.ofNat (g_h c n p) < Int32.ofNat 65 then fn_Md_term_50 N (Int32.ofNat (g_h c n p)) (qs S (g_s c n p) (Int32.ofInt 0) b o s a12 a13 a14 a15 a16) else if Int32.ofNat 72 < Int32.ofNat (g_h c n p) then fn_Md_term_50 N (Int32.ofNat (g_h c n p)) (qs S (g_s c n p) (Int32.ofInt 0) b o s a12 a13 a14 a15 a16) else some (100000 + Int32.ofNat (g_h c n p) - Int32.ofNat 65, (va_up (va_up (qs S (g_s c n p) (Int32.ofInt 0) b o s a12 a13 a14 a15 a16).1 16 ((qs S (g_s c n p) (Int32.ofInt 0) b o s a12 a13 a14 a15 a16).1 16 + Int32.ofInt 1)) 26 (va_up (qs S (g_s c n p) (Int32.ofInt 0) b o s a12 a13 a14 a15 a16).1 16 ((qs S (g_s c n p) (Int32.ofInt 0) b o s a12 a13 a14 a15 a16).1 16 + Int32.ofInt 1) 26 ||| Int32.ofInt 1 <<< (Int32.ofNat (g_h c n p) - Int32.ofNat 65 &&& 31)), (qs S (g_s c n p) (Int32.ofInt 0) b o s a12 a13 a14 a15 a16).2))) = fn_Md_term_50 N (Int32.ofNat (g_h c n p)) (qs S (g_s c n p) (Int32.ofInt 0) b o s a12 a13 a14 a15 a16) := by
      by_cases q1 : g_h c n p < 65
      · rw [if_pos (n_ltT q1 (by omega))]
      · rw [if_neg (n_ltF (by omega) (by omega)), if_pos (n_ltT (by omega) (by omega))]
    rw [e50]
    unfold fn_Md_term_50 fn_Md_term_61 fn_Md_term_80 fn_Md_term_101
    have e10 : (Int16.ofInt (10000)).toInt32 = Int32.ofInt 10000 := by decide
    rw [n_c45, e10]
    by_cases e2 : g_h c n p = 45
    · have hlt := g_h_lt (c := c) (n := n) (p := p) (by omega)
      have key := m_number (N := N) (b := b) (o := o) (s := s) (a12 := a12) (a13 := a13) (a14 := a14) (a15 := a15) (a16 := a16) k hN (show g_s c n p + 1 ≤ n by omega)
      rw [if_pos (n_eqT e2), if_pos e2, if_neg n_ne10, qs_g16, n_1, n_add, qs_s16]
      cases e3 : g_d c n (g_s c n p + 1) with
      | none =>
        rw [e3] at key
        obtain ⟨v, q, hv, hq, key⟩ := key
        rw [key, Option.bind_some, Option.bind_none]
        exact ⟨_, q, hq, if_neg n_ne10⟩
      | some r =>
        rw [e3] at key
        simp only at key
        have hv := g_d_ok (show g_s c n p + 1 ≤ n by omega) (show _ = some (r.1, r.2) from e3)
        rw [key, Option.bind_some, Option.bind_some]
        dsimp only
        have hg : g_bit (-(r.1 : Int)) = 0 := if_pos (by omega)
        have he : g_te (-(r.1 : Int)) = 10000 + -(r.1 : Int) := if_pos (by omega)
        rw [if_neg (show ¬ Int32.ofNat 1 = 0 from n_ne10), hg, he, Int32.or_zero, Int32.ofInt_add, Int32.ofInt_neg]
        rfl
    · have key := m_number (N := N) (b := b) (o := o) (s := s) (a12 := a12) (a13 := a13) (a14 := a14) (a15 := a15) (a16 := a16) k hN hs.2
      rw [if_neg (n_eqF e2 (by omega) (by omega)), if_neg e2, if_pos n_e00, qs_g16, qs_s16]
      cases e3 : g_d c n (g_s c n p) with
      | none =>
        rw [e3] at key
        obtain ⟨v, q, hv, hq, key⟩ := key
        rw [key, Option.bind_some, Option.bind_none]
        exact ⟨_, q, hq, if_pos n_e00⟩
      | some r =>
        rw [e3] at key
        simp only at key
        have hv := g_d_ok hs.2 (show _ = some (r.1, r.2) from e3)
        rw [key, Option.bind_some, Option.bind_some]
        dsimp only
        have hg : g_bit (r.1 : Int) = 0 := if_pos (by omega)
        have he : g_te (r.1 : Int) = 10000 + (r.1 : Int) := if_pos (by omega)
        rw [if_pos n_e00, hg, he, Int32.or_zero, Int32.ofInt_add]
        rfl
end ML
