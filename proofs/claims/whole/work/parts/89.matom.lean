/-! ### The reference's atoms -/
def am_rep (a13 : Nat → Int32) (to : Nat) (x : g_A) : Prop := a13 to = Int32.ofNat x.1 ∧ a13 (to + 1) = Int32.ofNat x.2.1 ∧ (1 ≤ x.2.1 → a13 (to + 2) = Int32.ofInt (g_te x.2.2.1)) ∧ (2 ≤ x.2.1 → a13 (to + 3) = Int32.ofInt (g_te x.2.2.2))
theorem upd_eq (f : Nat → Int32) (k : Nat) (x : Int32) : upd f k x k = x := if_pos rfl
theorem upd_ne {f : Nat → Int32} {k j : Nat} {x : Int32} (h : j ≠ k) : upd f k x j = f j := if_neg h
section MA
variable {N : Nat} {c : Nat → Nat} {n t sl : Nat} {S : MS} {p s : Nat} {w b o : Int32} {a12 a13 a14 a15 a16 : Nat → Int32}
theorem m_at226 {x : Int32} (hx : md_01 x = true) : fn_Md_readAtom_226 N x (qs S p w b o s a12 a13 a14 a15 a16) = some (0, qs S p x b o s a12 a13 a14 a15 a16) := by
  unfold fn_Md_readAtom_226
  rw [if_pos hx, qs_s20]
theorem m_at105w {d : Nat} {to : Int32} {x : Int32} : fn_Md_readAtom_105 N (d + 1) to x (qs S p (Int32.ofInt 1) b o s a12 a13 a14 a15 a16) = some (0, qs S p (Int32.ofInt 1) b o s a12 a13 a14 a15 a16) := by
  have e : fn_Md_readAtom_204 N (qs S p (Int32.ofInt 1) b o s a12 a13 a14 a15 a16) = some (0, qs S p (Int32.ofInt 1) b o s a12 a13 a14 a15 a16) := by
    unfold fn_Md_readAtom_204 fn_Md_readAtom_221
    rw [qs_g20, if_neg n_ne10, m_at226 n_b1]
  unfold fn_Md_readAtom_105
  by_cases h : x = 0
  · rw [if_pos h, e]
  · rw [if_neg h, qs_g20, if_neg n_ne10, e]
theorem m_at105z (k : q_ok c n t sl S) (hN : 45 ≤ N) (hp : p ≤ n) {d : Nat} {to : Int32} : fn_Md_readAtom_105 N (d + 1) to (Int32.ofInt 0) (qs S p (Int32.ofInt 0) b o s a12 a13 a14 a15 a16) = match g_t c n p 41 with
    | some q => some (0, qs S q (Int32.ofInt 0) b o s a12 a13 a14 a15 a16)
    | none => some (0, qs S (g_s c n p) (Int32.ofInt 1) b o s a12 a13 a14 a15 a16) := by
  unfold fn_Md_readAtom_105 fn_Md_readAtom_204 fn_Md_readAtom_221
  rw [if_pos n_e00, qs_g20, if_pos n_e00, n_c41, m_next k hN (by omega) (by omega)]
  cases e : g_t c n p 41 with
  | none => simp only [Option.bind_some, n_e00, if_true]; exact m_at226 n_b1
  | some q => simp only [Option.bind_some, if_neg n_ne10]; exact m_at226 n_b0
theorem m_at178w {k105 : Int32 → Int32 → MS → Option (Int32 × MS)} {to : Int32} : fn_Md_readAtom_178 N k105 to (qs S p (Int32.ofInt 1) b o s a12 a13 a14 a15 a16) = k105 to (Int32.ofInt 0) (qs S p (Int32.ofInt 1) b o s a12 a13 a14 a15 a16) := by
  unfold fn_Md_readAtom_178 fn_Md_readAtom_198 fn_Md_readAtom_199
  rw [qs_g20, if_neg n_ne10]
theorem m_at105s (k : q_ok c n t sl S) (hN : 45 ≤ N) (hp : p ≤ n) {d to j : Nat} (hto : to ≤ 492) (hj : j < 2) (ha : a13 (to + 1) = Int32.ofNat j) : match g_tm c n p with
    | some r => fn_Md_readAtom_105 N (d + 1) (Int32.ofNat to) (Int32.ofInt 1) (qs S p (Int32.ofInt 0) b o s a12 a13 a14 a15 a16) = (match g_t c n r.2 44 with
      | some q => fn_Md_readAtom_105 N d (Int32.ofNat to) (Int32.ofInt 1) (qs S q (Int32.ofInt 0) (b ||| g_bit r.1) o s a12 (upd (upd a13 (to + 1) (Int32.ofNat (j + 1))) (to + 1 + (j + 1)) (Int32.ofInt (g_te r.1))) a14 a15 a16)
      | none => fn_Md_readAtom_105 N d (Int32.ofNat to) (Int32.ofInt 0) (qs S (g_s c n r.2) (Int32.ofInt 0) (b ||| g_bit r.1) o s a12 (upd (upd a13 (to + 1) (Int32.ofNat (j + 1))) (to + 1 + (j + 1)) (Int32.ofInt (g_te r.1))) a14 a15 a16))
    | none => ∃ v q, q ≤ n ∧ fn_Md_readAtom_105 N (d + 1) (Int32.ofNat to) (Int32.ofInt 1) (qs S p (Int32.ofInt 0) b o s a12 a13 a14 a15 a16) = fn_Md_readAtom_105 N d (Int32.ofNat to) (Int32.ofInt 0) (qs S q (Int32.ofInt 1) b o s a12 (upd (upd a13 (to + 1) (Int32.ofNat (j + 1))) (to + 1 + (j + 1)) v) a14 a15 a16) := by
  have e1 : fn_Md_readAtom_105 N (d + 1) (Int32.ofNat to) (Int32.ofInt 1) (qs S p (Int32.ofInt 0) b o s a12 a13 a14 a15 a16) = fn_Md_readAtom_147 N (fn_Md_readAtom_105 N d) (Int32.ofNat to) (Int32.ofInt 0) (qs S p (Int32.ofInt 0) b o s a12 (upd a13 (to + 1) (Int32.ofNat (j + 1))) a14 a15 a16) := by
    conv => lhs; unfold fn_Md_readAtom_105
    rw [if_neg n_ne10, qs_g20, if_pos n_e00, n_1, n_add]
    have hi : md_in (Int32.ofNat (to + 1)) (md_len 13) = true := by rw [n_in (by omega), ml13]; omega
    rw [if_pos hi, if_pos hi, if_pos hi, n_nat (by omega)]
    dsimp only
    rw [qs_h13, ha, n_add, qs_v13, qs_h13, upd_eq, n_2, if_pos (n_leT (by omega) (by omega)), qs_pr]
  rw [e1]
  unfold fn_Md_readAtom_147
  have hi : md_in (Int32.ofNat (to + 1)) (md_len 13) = true := by rw [n_in (by omega), ml13]; omega
  have hi2 : md_in (Int32.ofNat (to + 1 + (j + 1))) (md_len 13) = true := by rw [n_in (by omega), ml13]; omega
  rw [if_pos n_b0, qs_s20, qs_g20, if_pos n_e00, n_1, n_add, if_pos hi, qs_h13, n_nat (by omega), upd_eq, n_add, n_nat (by omega)]
  have key := m_term (N := N) (b := b) (o := o) (s := s) (a12 := a12) (a13 := upd a13 (to + 1) (Int32.ofNat (j + 1))) (a14 := a14) (a15 := a15) (a16 := a16) k hN hp
  cases e2 : g_tm c n p with
  | none =>
    rw [e2] at key
    obtain ⟨v, q, hq, key⟩ := key
    refine ⟨v, q, hq, ?_⟩
    rw [key, Option.bind_some, if_pos hi2]
    dsimp only
    rw [qs_h13, qs_v13, qs_pr, m_at178w]
    rfl
  | some r =>
    rw [e2] at key
    simp only at key
    have hr := g_tm_ok hp (show _ = some (r.1, r.2) from e2)
    rw [key, Option.bind_some, if_pos hi2]
    dsimp only
    rw [qs_h13, qs_v13, qs_pr]
    unfold fn_Md_readAtom_178 fn_Md_readAtom_198 fn_Md_readAtom_199
    rw [qs_g20, if_pos n_e00, n_c44, m_next k hN (by omega) (by omega)]
    cases e3 : g_t c n r.2 44 with
    | none => simp only [Option.bind_some, n_e00, if_true]
    | some q => simp only [Option.bind_some, if_neg n_ne10]; rfl
theorem m_at105t {d to : Nat} (hto : to ≤ 492) (ha : a13 (to + 1) = Int32.ofNat 2) : fn_Md_readAtom_105 N (d + 2) (Int32.ofNat to) (Int32.ofInt 1) (qs S p (Int32.ofInt 0) b o s a12 a13 a14 a15 a16) = some (0, qs S p (Int32.ofInt 1) b o s a12 (upd a13 (to + 1) (Int32.ofNat 3)) a14 a15 a16) := by
  conv => lhs; unfold fn_Md_readAtom_105
  rw [if_neg n_ne10, qs_g20, if_pos n_e00, n_1, n_add]
  have hi : md_in (Int32.ofNat (to + 1)) (md_len 13) = true := by rw [n_in (by omega), ml13]; omega
  rw [if_pos hi, if_pos hi, if_pos hi, n_nat (by omega)]
  dsimp only
  rw [qs_h13, ha, n_add, qs_v13, qs_h13, upd_eq, n_2, if_neg (n_leF (by omega) (by omega)), qs_pr]
  unfold fn_Md_readAtom_147
  rw [if_pos (show md_01 (Int32.ofNat 1) = true from rfl), qs_s20, qs_g20, if_neg (show ¬ Int32.ofNat 1 = 0 from n_ne10)]
  rw [show Int32.ofNat 1 = Int32.ofInt 1 from rfl, m_at178w]
  exact m_at105w
/-- an atom is begun -/
theorem m_at35 {x2 : Int32} {to : Nat} (hto : to ≤ 492) {x : Int32} (hx : md_01 x = true) : fn_Md_readAtom_35 N x2 (Int32.ofNat to) x (qs S p w b o s a12 a13 a14 a15 a16) =
    if x = 0 then ((fn_Md_next N (Int32.ofNat 40) (qs S (p + 1) x b o s a12 (upd (upd (upd (upd a13 to (x2 - Int32.ofNat 97)) (to + 1) (Int32.ofNat 0)) (to + 2) (Int32.ofNat 0)) (to + 3) (Int32.ofNat 0)) a14 a15 a16)).bind fun r1 => if r1.1 = 0 then some (0, r1.2) else fn_Md_readAtom_105 N N (Int32.ofNat to) (Int32.ofInt 1) r1.2)
    else some (0, qs S (p + 1) x b o s a12 (upd (upd (upd (upd a13 to (x2 - Int32.ofNat 97)) (to + 1) (Int32.ofNat 0)) (to + 2) (Int32.ofNat 0)) (to + 3) (Int32.ofNat 0)) a14 a15 a16) := by
  unfold fn_Md_readAtom_35 fn_Md_readAtom_101
  have h0 : md_in (Int32.ofNat to) (md_len 13) = true := by rw [n_in (by omega), ml13]; omega
  have h1 : md_in (Int32.ofNat to + Int32.ofInt 1) (md_len 13) = true := by rw [n_1, n_add, n_in (by omega), ml13]; omega
  have h2 : md_in (Int32.ofNat to + Int32.ofInt 2) (md_len 13) = true := by rw [n_2, n_add, n_in (by omega), ml13]; omega
  have h3 : md_in (Int32.ofNat to + Int32.ofInt 3) (md_len 13) = true := by rw [n_3, n_add, n_in (by omega), ml13]; omega
  rw [if_pos hx, if_pos h0, if_pos h1, if_pos h2, if_pos h3]
  have e1 : Int32.ofNat to + Int32.ofInt 1 = Int32.ofNat (to + 1) := by rw [n_1, n_add]
  have e2 : Int32.ofNat to + Int32.ofInt 2 = Int32.ofNat (to + 2) := by rw [n_2, n_add]
  have e3 : Int32.ofNat to + Int32.ofInt 3 = Int32.ofNat (to + 3) := by rw [n_3, n_add]
  have e4 : Int32.ofNat p + Int32.ofInt 1 = Int32.ofNat (p + 1) := by rw [n_1, n_add]
  simp only [e1, e2, e3, qs_u20, qs_g16, e4, qs_u16, qs_h13, qs_v13, qs_pr, qs_g20, n_nat (show to < 2147483648 by omega), n_nat (show to + 1 < 2147483648 by omega), n_nat (show to + 2 < 2147483648 by omega), n_nat (show to + 3 < 2147483648 by omega), n_c97, n_c40, n_0]
theorem m_atom (k : q_ok c n t sl S) (hN : 45 ≤ N) (hp : p ≤ n) {kk : Nat} (hk : kk ≤ 3) : match g_at c n p with
    | some r => ∃ a13', fn_Md_readAtom N (Int32.ofNat kk) (qs S p (Int32.ofInt 0) b o s a12 a13 a14 a15 a16) = some (0, qs S r.2 (Int32.ofInt 0) (b ||| g_vs r.1) o s a12 a13' a14 a15 a16) ∧ am_rep a13' (16 * sl + 4 * kk) r.1 ∧ ∀ j, j < 16 * sl + 4 * kk ∨ 16 * sl + 4 * kk + 4 ≤ j → a13' j = a13 j
    | none => ∃ q b' a13', q ≤ n + 1 ∧ fn_Md_readAtom N (Int32.ofNat kk) (qs S p (Int32.ofInt 0) b o s a12 a13 a14 a15 a16) = some (0, qs S q (Int32.ofInt 1) b' o s a12 a13' a14 a15 a16) ∧ ∀ j, j < 16 * sl + 4 * kk ∨ 16 * sl + 4 * kk + 4 ≤ j → a13' j = a13 j := by
  have hh := q_h_le k p
  have hs := g_s_le (c := c) hp
  have k6 := k.2.2.2.2.2.1
  have hto : 16 * sl + 4 * kk ≤ 492 := by omega
  unfold fn_Md_readAtom fn_Md_readAtom_0 fn_Md_readAtom_30
  rw [m_here k hN (by omega), Option.bind_some]
  dsimp only
  rw [n_c97, n_c122, qs_g19, k.2.2.1, n_c16, n_mul, n_4, n_mul, n_add]
  generalize hT : 16 * sl + 4 * kk = T at hto
  unfold g_at
  by_cases e1 : 97 ≤ g_h c n p ∧ g_h c n p ≤ 122
  · have hlt := g_h_lt (c := c) (n := n) (p := p) (by omega)
    rw [if_pos e1, if_neg (n_ltF (by omega) (by omega)), if_pos (n_leT (by omega) (by omega)), m_at35 hto n_b0, if_pos n_e00, n_sub e1.1, m_next k hN (by omega) (by omega)]
    generalize hA : upd (upd (upd (upd a13 T (Int32.ofNat (g_h c n p - 97))) (T + 1) (Int32.ofNat 0)) (T + 2) (Int32.ofNat 0)) (T + 3) (Int32.ofNat 0) = A
    have A0 : A T = Int32.ofNat (g_h c n p - 97) := by
      rw [← hA, upd_ne (by omega), upd_ne (by omega), upd_ne (by omega), upd_eq]
    have A1 : A (T + 1) = Int32.ofNat 0 := by
      rw [← hA, upd_ne (by omega), upd_ne (by omega), upd_eq]
    have AF : ∀ j, j < T ∨ T + 4 ≤ j → A j = a13 j := by
      intro j hj
      rw [← hA, upd_ne (by omega), upd_ne (by omega), upd_ne (by omega), upd_ne (by omega)]
    cases e2 : g_t c n (g_s c n p + 1) 40 with
    | none =>
      simp only [Option.bind_some, n_e00, if_true]
      refine ⟨A, ?_, ⟨A0, A1, fun q => absurd q (by show ¬ 1 ≤ 0; omega), fun q => absurd q (by show ¬ 2 ≤ 0; omega)⟩, AF⟩
      have hv : g_vs (g_h c n p - 97, 0, 0, 0) = 0 := show g_bit 0 ||| g_bit 0 = 0 by decide
      rw [hv, Int32.or_zero]
    | some p1 =>
      have h1 := g_t_ok (show g_s c n p + 1 ≤ n by omega) (by decide) e2
      simp only [Option.bind_some, if_neg n_ne10]
      obtain ⟨N', rfl⟩ : ∃ N', N = N' + 4 := ⟨N - 4, by omega⟩
      have key := m_at105s (N := N' + 4) (d := N' + 3) (b := b) (o := o) (s := s) (a12 := a12) (a14 := a14) (a15 := a15) (a16 := a16) k hN h1.2 hto (show 0 < 2 by omega) A1
      cases e3 : g_tm c n p1 with
      | none =>
        rw [e3] at key
        obtain ⟨v, q, hq, key⟩ := key
        rw [key, Option.bind_none]
        refine ⟨q, b, _, by omega, m_at105w, ?_⟩
        intro j hj
        rw [upd_ne (by omega), upd_ne (by omega), AF j hj]
      | some r1 =>
        rw [e3] at key
        simp only at key
        have h2 := g_tm_ok h1.2 (show _ = some (r1.1, r1.2) from e3)
        have hs2 := g_s_le (c := c) h2.2.2
        rw [key, Option.bind_some]
        generalize hB : upd (upd A (T + 1) (Int32.ofNat (0 + 1))) (T + 1 + (0 + 1)) (Int32.ofInt (g_te r1.1)) = B
        have B0 : B T = Int32.ofNat (g_h c n p - 97) := by rw [← hB, upd_ne (by omega), upd_ne (by omega), A0]
        have B1 : B (T + 1) = Int32.ofNat 1 := by rw [← hB, upd_ne (by omega), upd_eq]
        have B2 : B (T + 2) = Int32.ofInt (g_te r1.1) := by rw [← hB]; exact upd_eq _ _ _
        have BF : ∀ j, j < T ∨ T + 4 ≤ j → B j = a13 j := by
          intro j hj
          rw [← hB, upd_ne (by omega), upd_ne (by omega), AF j hj]
        cases e4 : g_t c n r1.2 44 with
        | none =>
          simp only [m_at105z k hN hs2.2, g_t_s h2.2.2]
          cases e5 : g_t c n r1.2 41 with
          | none =>
            simp only [Option.bind_none]
            exact ⟨_, _, B, by rw [g_s_s h2.2.2]; omega, rfl, BF⟩
          | some p3 =>
            refine ⟨B, ?_, ⟨B0, B1, fun _ => B2, fun q => absurd q (by show ¬ 2 ≤ 1; omega)⟩, BF⟩
            have hv : g_vs (g_h c n p - 97, 1, r1.1, 0) = g_bit r1.1 := by
              show g_bit r1.1 ||| g_bit 0 = _
              rw [show g_bit 0 = 0 by decide, Int32.or_zero]
            rw [hv]
        | some p3 =>
          have h3 := g_t_ok h2.2.2 (by decide) e4
          have e41 : g_t c n r1.2 41 = none := by
            unfold g_t at e4 ⊢
            split at e4
            · next h => rw [if_neg (by omega)]
            · cases e4
          simp only [e41, Option.bind_some]
          have key2 := m_at105s (N := N' + 4) (d := N' + 2) (b := b ||| g_bit r1.1) (o := o) (s := s) (a12 := a12) (a14 := a14) (a15 := a15) (a16 := a16) k hN h3.2 hto (show 1 < 2 by omega) B1
          cases e6 : g_tm c n p3 with
          | none =>
            rw [e6] at key2
            obtain ⟨v, q, hq, key2⟩ := key2
            rw [key2, Option.bind_none]
            refine ⟨q, _, _, by omega, m_at105w, ?_⟩
            intro j hj
            rw [upd_ne (by omega), upd_ne (by omega), BF j hj]
          | some r2 =>
            rw [e6] at key2
            simp only at key2
            have h4 := g_tm_ok h3.2 (show _ = some (r2.1, r2.2) from e6)
            have hs4 := g_s_le (c := c) h4.2.2
            rw [key2, Option.bind_some]
            generalize hD : upd (upd B (T + 1) (Int32.ofNat (1 + 1))) (T + 1 + (1 + 1)) (Int32.ofInt (g_te r2.1)) = D
            have D0 : D T = Int32.ofNat (g_h c n p - 97) := by rw [← hD, upd_ne (by omega), upd_ne (by omega), B0]
            have D1 : D (T + 1) = Int32.ofNat 2 := by rw [← hD, upd_ne (by omega), upd_eq]
            have D2 : D (T + 2) = Int32.ofInt (g_te r1.1) := by rw [← hD, upd_ne (by omega), upd_ne (by omega), B2]
            have D3 : D (T + 3) = Int32.ofInt (g_te r2.1) := by rw [← hD]; exact upd_eq _ _ _
            have DF : ∀ j, j < T ∨ T + 4 ≤ j → D j = a13 j := by
              intro j hj
              rw [← hD, upd_ne (by omega), upd_ne (by omega), BF j hj]
            cases e7 : g_t c n r2.2 44 with
            | some p5 =>
              have e71 : g_t c n r2.2 41 = none := by
                unfold g_t at e7 ⊢
                split at e7
                · next h => rw [if_neg (by omega)]
                · cases e7
              have h5 := g_t_ok h4.2.2 (by decide) e7
              simp only [e71, Option.bind_none]
              rw [m_at105t hto D1]
              refine ⟨p5, _, _, by omega, rfl, ?_⟩
              intro j hj
              rw [upd_ne (by omega), DF j hj]
            | none =>
              simp only [m_at105z k hN hs4.2, g_t_s h4.2.2]
              cases e8 : g_t c n r2.2 41 with
              | none =>
                simp only [Option.bind_none]
                exact ⟨_, _, D, by rw [g_s_s h4.2.2]; omega, rfl, DF⟩
              | some p5 =>
                refine ⟨D, ?_, ⟨D0, D1, fun _ => D2, fun _ => D3⟩, DF⟩
                have hv : g_vs (g_h c n p - 97, 2, r1.1, r2.1) = g_bit r1.1 ||| g_bit r2.1 := rfl
                rw [hv, ← Int32.or_assoc]
  · rw [if_neg e1]
    have e30 : ∀ X Y : Option (Int32 × MS), (if Int32.ofNat (g_h c n p) < Int32.ofNat 97 then X else if Int32.ofNat (g_h c n p) ≤ Int32.ofNat 122 then Y else X) = X := by
      intro X Y
      by_cases q1 : g_h c n p < 97
      · rw [if_pos (n_ltT q1 (by omega))]
      · rw [if_neg (n_ltF (by omega) (by omega)), if_neg (n_leF (by omega) (by omega))]
    rw [e30, m_at35 hto n_b1, if_neg n_ne10]
    refine ⟨_, _, _, by omega, rfl, ?_⟩
    intro j hj
    rw [upd_ne (by omega), upd_ne (by omega), upd_ne (by omega), upd_ne (by omega)]
end MA
