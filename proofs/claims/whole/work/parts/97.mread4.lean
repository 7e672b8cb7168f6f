section MR4
variable {N : Nat} {c : Nat → Nat} {n t sl : Nat} {S : MS}
/-- the reference reads a line as the grammar says -/
theorem m_read (hN : 60 ≤ N) (hn : n ≤ 40) (ht : t ≤ 95) (h6 : sl ≤ 30) (h2 : S.2 2 t = Int32.ofNat n) (hc : ∀ i, i < n → S.2 1 (40 * t + i) = Int32.ofNat (c i) ∧ 32 ≤ c i ∧ c i ≤ 126) : mr_sp S sl (g_rd c n) (fn_Md_read N (Int32.ofNat t) (Int32.ofNat sl) S) := by
  obtain ⟨s, hs⟩ := i32_nat (S.1 31)
  have k : ∀ x9 x11, q_ok c n t sl (rb S t n sl x9 x11) := fun x9 x11 => rb_ok hn ht h6 hc
  have hg := g_s_le (c := c) (Nat.zero_le n)
  have hh := q_h_le (k (S.2 9) (S.2 11)) 0
  have ad1 : ∀ q : Nat, Int32.ofNat q + Int32.ofInt 1 = Int32.ofNat (q + 1) := fun q => by rw [n_1, n_add]
  rw [m_read0 h2 ht h6 hs]
  have hf : mfa S sl (upd (S.2 12) sl (Int32.ofNat 0)) (S.2 13) (upd (S.2 14) sl (Int32.ofNat 0)) (S.2 15) (S.2 9) (upd (S.2 11) sl (Int32.ofInt 0)) := ⟨fun _ _ => rfl, fun i hi => upd_ne hi, fun i hi => upd_ne hi, fun i hi => upd_ne hi, fun _ _ => rfl, fun _ _ => rfl⟩
  have f12 : upd (S.2 12) sl (Int32.ofNat 0) sl = Int32.ofNat 0 := upd_eq _ _ _
  have f14 : upd (S.2 14) sl (Int32.ofNat 0) sl = Int32.ofNat 0 := upd_eq _ _ _
  have f11 : upd (S.2 11) sl (Int32.ofInt 0) sl = Int32.ofInt 0 := upd_eq _ _ _
  generalize upd (S.2 12) sl (Int32.ofNat 0) = a12 at hf f12
  generalize upd (S.2 14) sl (Int32.ofNat 0) = a14 at hf f14
  generalize upd (S.2 11) sl (Int32.ofInt 0) = x11 at hf f11
  rw [m_here (k (S.2 9) x11) (by omega) (by omega), Option.bind_some]
  dsimp only
  rw [n_c63, n_c33, n_c43, n_c45]
  unfold g_rd
  have sp : ∀ kk x : Nat, 1 ≤ kk → kk ≤ 5 → x ≠ 0 → g_h c n 0 = x → mr_sp S sl (g_tail c n kk none 0 (g_s c n 0 + 1)) (fn_Md_read_119 N (Int32.ofNat kk) (qs (rb S t n sl (S.2 9) x11) (g_s c n 0) (Int32.ofInt 0) 0 0 s a12 (S.2 13) a14 (S.2 15) (S.2 16))) := by
    intro kk x h1 h5 hx e
    have hlt := g_h_lt (c := c) (n := n) (p := 0) (by omega)
    unfold fn_Md_read_119
    rw [if_neg (n_ne0 (by omega) (by omega)), qs_g16, ad1, qs_s16]
    exact m_tail k hN (by omega) h1 h5 f12 (fun y hy => by cases hy) f14 hf
  by_cases e1 : g_h c n 0 = 63
  · rw [if_pos (n_eqT e1), if_pos e1]
    exact sp 2 63 (by omega) (by omega) (by omega) e1
  rw [if_neg (n_eqF e1 (by omega) (by omega)), if_neg e1]
  by_cases e2 : g_h c n 0 = 33
  · rw [if_pos (n_eqT e2), if_pos e2]
    exact sp 3 33 (by omega) (by omega) (by omega) e2
  rw [if_neg (n_eqF e2 (by omega) (by omega)), if_neg e2]
  by_cases e3 : g_h c n 0 = 43
  · rw [if_pos (n_eqT e3), if_pos e3]
    exact sp 4 43 (by omega) (by omega) (by omega) e3
  rw [if_neg (n_eqF e3 (by omega) (by omega)), if_neg e3]
  by_cases e4 : g_h c n 0 = 45
  · rw [if_pos (n_eqT e4), if_pos e4]
    exact sp 5 45 (by omega) (by omega) (by omega) e4
  rw [if_neg (n_eqF e4 (by omega) (by omega)), if_neg e4]
  unfold fn_Md_read_119
  rw [if_pos n_e00]
  have ka := m_atom (N := N) (b := 0) (o := 0) (s := s) (a12 := a12) (a13 := S.2 13) (a14 := a14) (a15 := S.2 15) (a16 := S.2 16) (k (S.2 9) x11) (by omega) hg.2 (Nat.zero_le 3)
  cases e5 : g_at c n (g_s c n 0) with
  | none =>
    rw [e5] at ka
    obtain ⟨q, b', a13', hq, ka, hfr⟩ := ka
    replace ka : fn_Md_readAtom N (Int32.ofInt 0) (qs (rb S t n sl (S.2 9) x11) (g_s c n 0) (Int32.ofInt 0) 0 0 s a12 (S.2 13) a14 (S.2 15) (S.2 16)) = _ := ka
    rw [ka, Option.bind_some, Option.bind_none]
    dsimp only
    simp only [qs_g26, qs_u27, qs_u26, qs_pr, qs_g20, if_neg n_ne10]
    unfold fn_Md_read_162 fn_Md_read_163 fn_Md_read_200 fn_Md_read_205
    rw [qs_g20, if_neg n_ne10, if_pos n_b1, qs_s20]
    unfold fn_Md_read_221
    rw [if_pos (by decide)]
    exact m_fail ⟨hf.1, hf.2.1, hf.2.2.1, hf.2.2.2.1, fun i hi => by rw [hfr i (by omega)], hf.2.2.2.2.2⟩ h6
  | some r =>
    rw [e5] at ka
    obtain ⟨a13', ka, hx, hfr⟩ := ka
    have hga := g_at_ok hg.2 (show g_at c n (g_s c n 0) = some (r.1, r.2) from e5)
    have hf2 : mfa S sl a12 a13' a14 (S.2 15) (S.2 9) x11 := ⟨hf.1, hf.2.1, hf.2.2.1, hf.2.2.2.1, fun i hi => by rw [hfr i (by omega)], hf.2.2.2.2.2⟩
    have hh2 := q_h_le (k (S.2 9) x11) r.2
    have hs2 := g_s_le (c := c) hga.2.1
    replace ka : fn_Md_readAtom N (Int32.ofInt 0) (qs (rb S t n sl (S.2 9) x11) (g_s c n 0) (Int32.ofInt 0) 0 0 s a12 (S.2 13) a14 (S.2 15) (S.2 16)) = _ := ka
    rw [ka, Option.bind_some, Option.bind_some]
    dsimp only
    simp only [qs_g26, qs_u27, qs_u26, qs_pr, qs_g20, if_pos n_e00, Int32.zero_or]
    rw [m_here (k (S.2 9) x11) (by omega) (by omega), Option.bind_some]
    dsimp only
    have hxx : am_rep a13' (16 * sl) r.1 := hx
    have fail : ∀ (x4 : Int32) (p : Nat) (b o : Int32), x4 ≤ 0 ∨ True → mr_sp S sl none (fn_Md_read_200 N x4 (qs (rb S t n sl (S.2 9) x11) p (Int32.ofInt 0) b o s a12 a13' a14 (S.2 15) (S.2 16))) := by
      intro x4 p b o _
      unfold fn_Md_read_200 fn_Md_read_205 fn_Md_read_221
      rw [if_pos n_b1, qs_s20]
      by_cases h : x4 ≤ 0
      · rw [if_pos h]; exact m_fail hf2 h6
      · rw [if_neg h, qs_g20, if_neg n_ne10]; exact m_fail hf2 h6
    by_cases e6 : g_h c n r.2 = 0
    · have e61 : g_t c n r.2 61 = none := by unfold g_t; rw [if_neg (by omega)]
      rw [if_pos (show Int32.ofNat (g_h c n r.2) = 0 by rw [e6]; rfl), e61]
      dsimp only
      unfold fn_Md_read_162 fn_Md_read_163 fn_Md_read_188
      rw [qs_g20, if_pos n_e00, if_neg (by decide), if_pos n_e00, qs_g27]
      by_cases e7 : g_vs r.1 = 0
      · rw [if_pos e7]
        unfold fn_Md_read_204 fn_Md_read_205 fn_Md_read_221
        rw [if_pos n_b0, qs_s20, if_pos (by decide), e7]
        exact m_gend k hN hs2.2 (kk := 0) (by omega) (fun _ => ⟨rfl, rfl⟩) false f11 f12 (fun y hy => by cases hy; exact hxx) (fun i y hy => by cases hy) f14 (fun i y hy => by cases hy) hf2
      · rw [if_neg e7]
        have : g_end c n 0 (some r.1) [] [] (g_vs r.1) 0 false (g_s c n r.2) = none := by
          unfold g_end
          rw [and_not0, if_neg e7, ite_self]
        rw [this]
        exact fail _ _ _ _ (Or.inr trivial)
    · rw [if_neg (n_ne0 (by omega) (by omega))]
      unfold fn_Md_read_163
      rw [qs_g20, if_pos n_e00, if_pos rfl, n_c61, m_next (k (S.2 9) x11) (by omega) (by omega) (by omega), g_t_s hga.2.1, g_s_s hga.2.1]
      cases e7 : g_t c n r.2 61 with
      | none =>
        simp only [Option.bind_some, n_e00, if_true]
        have : g_end c n 0 (some r.1) [] [] (g_vs r.1) 0 false (g_s c n r.2) = none := by
          unfold g_end
          rw [g_h_s hga.2.1, if_neg e6]
        rw [this]
        exact fail _ _ _ _ (Or.inr trivial)
      | some p2 =>
        have h7 := g_t_ok hga.2.1 (by decide) e7
        simp only [Option.bind_some, if_neg n_ne10]
        unfold fn_Md_read_188 fn_Md_read_204 fn_Md_read_205
        rw [if_neg n_ne10, if_pos n_b0, qs_s20]
        exact m_tail k hN h7.2 (kk := 1) (by omega) (by omega) f12 (fun y hy => by cases hy; exact hxx) f14 hf2
end MR4
