/-! ### The reference's reader -/
section MR
variable {N : Nat} {c : Nat → Nat} {n t sl : Nat} {S : MS} {A12 A13 A14 A15 : Nat → Int32}
theorem g_cmp_s {p : Nat} {l : List Int} {m : Int32} (kn : n ≤ 40) (hp : p ≤ n) : g_cmp c n (g_s c n p) l m = g_cmp c n p l m := by
  unfold g_cmp
  have : g_sum c n 6 0 (g_s c n p) l m = g_sum c n 6 0 p l m := by
    rw [← y_top kn hp, ← y_top kn (g_s_le hp).2, y_goT hp, y_goT (g_s_le hp).2, g_h_s hp, g_s_s hp]
  rw [this]
theorem g_cms_s {d p : Nat} {l : List Int} {m : Int32} (kn : n ≤ 40) (hp : p ≤ n) : g_cms c n d (g_s c n p) l m = g_cms c n d p l m := by
  cases d with
  | zero => rfl
  | succ d => unfold g_cms; rw [g_cmp_s kn hp]
theorem g_bd_s {e p : Nat} {as : List g_A} {m bv : Int32} (kn : n ≤ 40) (hp : p ≤ n) : g_bd c n m e (g_s c n p) as bv = g_bd c n m e p as bv := by
  cases e with
  | zero => unfold g_bd; rw [g_cms_s kn hp]
  | succ e => unfold g_bd; rw [g_at_s hp]
theorem bdm_app {a12 a13 a13' : Nat → Int32} {as : List g_A} {x : g_A} (h : bdm sl A12 A13 a12 a13 as) (hl : as.length < 3) (hx : am_rep a13' (16 * sl + 4 * (as.length + 1)) x) (hf : ∀ j, j < 16 * sl + 4 * (as.length + 1) ∨ 16 * sl + 4 * (as.length + 1) + 4 ≤ j → a13' j = a13 j) : bdm sl A12 A13 (upd a12 sl (Int32.ofNat (as.length + 1))) a13' (as ++ [x]) := by
  obtain ⟨h1, h2, h3, h4⟩ := h
  refine ⟨by rw [upd_eq, List.length_append]; rfl, ?_, fun j hj => by rw [upd_ne hj, h3 j hj], fun j hj => by rw [hf j (by omega), h4 j hj]⟩
  intro i y hy
  by_cases e : i = as.length
  · subst e
    rw [List.getElem?_append_right (Nat.le_refl _), Nat.sub_self] at hy
    cases hy
    exact hx
  · have hlt : i < as.length := by
      have := (List.getElem?_eq_some_iff.mp hy).1
      rw [List.length_append] at this
      simp only [List.length_cons, List.length_nil] at this
      omega
    rw [List.getElem?_append_left hlt] at hy
    obtain ⟨q1, q2, q3, q4⟩ := h2 i y hy
    refine ⟨by rw [hf _ (by omega), q1], by rw [hf _ (by omega), q2], fun r => by rw [hf _ (by omega), q3 r], fun r => by rw [hf _ (by omega), q4 r]⟩
theorem m_bd (k : q_ok c n t sl S) (hN : 60 ≤ N) : ∀ (e d p s : Nat) (as : List g_A) (b o : Int32) (a12 a13 a14 a15 a16 : Nat → Int32), as.length + e = 3 → e + 5 ≤ d → p ≤ n → (as = [] ∨ (97 ≤ g_h c n p ∧ g_h c n p ≤ 122)) → bdm sl A12 A13 a12 a13 as → cd sl A14 A15 a14 a15 [] →
    mb_sp n sl S A12 A13 A14 A15 (g_bd c n o e p as b) (fn_Md_body_4 N d (Int32.ofNat 0) (Int32.ofInt 1) (qs S p (Int32.ofInt 0) b o s a12 a13 a14 a15 a16))
  | e, 0, p, s, as, b, o, a12, a13, a14, a15, a16, ha, hd, hp, hn, hb, kc => absurd hd (by omega)
  | e, 1, p, s, as, b, o, a12, a13, a14, a15, a16, ha, hd, hp, hn, hb, kc => absurd hd (by omega)
  | e, d + 2, p, s, as, b, o, a12, a13, a14, a15, a16, ha, hd, hp, hn, hb, kc => by
    have kn := k.2.2.2.1
    have k6 := k.2.2.2.2.2.1
    have hs := g_s_le (c := c) hp
    have hh := q_h_le k p
    have h12 : md_in (Int32.ofNat sl) (md_len 12) = true := by rw [n_in (by omega), ml12]; omega
    have ad1 : ∀ q : Nat, Int32.ofNat q + Int32.ofInt 1 = Int32.ofNat (q + 1) := fun q => by rw [n_1, n_add]
    conv => arg 9; unfold fn_Md_body_4
    rw [if_neg n_ne10, qs_g20, if_pos n_e00, m_here k (by omega) (by omega), Option.bind_some]
    dsimp only
    rw [n_c97, n_c122]
    by_cases e1 : 97 ≤ g_h c n p ∧ g_h c n p ≤ 122
    · rw [if_neg (n_ltF (by omega) (by omega)), if_neg (n_ltF (by omega) (by omega)), if_pos (show Int32.ofNat 0 = 0 from rfl), qs_g19, k.2.2.1, if_pos h12, if_pos h12, if_pos h12, n_nat (by omega), qs_h12, hb.1, ad1, qs_v12, qs_h12, upd_eq, n_3, qs_pr]
      cases e with
      | zero =>
        rw [if_neg (n_leF (by omega) (by omega))]
        unfold fn_Md_body_68
        rw [if_pos n_b1, qs_s20, qs_g20, if_neg n_ne10, m_134w]
        unfold g_bd
        rw [g_cms_name hp e1]
        exact ⟨_, _, _, _, _, _, _, _, _, by omega, rfl, kc.2.2, fun j hj => by rw [upd_ne hj, hb.2.2.1 j hj], hb.2.2.2⟩
      | succ e =>
        rw [if_pos (n_leT (by omega) (by omega))]
        unfold fn_Md_body_68
        rw [if_pos n_b0, qs_s20, qs_g20, if_pos n_e00, qs_g19, k.2.2.1, if_pos h12, qs_h12, n_nat (by omega), upd_eq]
        have ka := m_atom (N := N) (b := b) (o := o) (s := s) (a12 := upd a12 sl (Int32.ofNat (as.length + 1))) (a13 := a13) (a14 := a14) (a15 := a15) (a16 := a16) k (by omega) hs.2 (show as.length + 1 ≤ 3 by omega)
        rw [g_at_s hp] at ka
        unfold g_bd
        cases e2 : g_at c n p with
        | none =>
          rw [e2] at ka
          obtain ⟨q, b', a13', hq, ka, hf⟩ := ka
          rw [ka, Option.bind_some, Option.bind_none]
          dsimp only
          rw [m_134w]
          exact ⟨_, _, _, _, _, _, _, _, _, hq, rfl, kc.2.2, fun j hj => by rw [upd_ne hj, hb.2.2.1 j hj], fun j hj => by rw [hf j (by omega), hb.2.2.2 j hj]⟩
        | some r =>
          rw [e2] at ka
          obtain ⟨a13', ka, hx, hf⟩ := ka
          have hg := g_at_ok hp (show g_at c n p = some (r.1, r.2) from e2)
          have hb2 := bdm_app hb (by omega) hx hf
          rw [ka, Option.bind_some, Option.bind_some]
          dsimp only
          rw [m_134 k hN hg.2.1]
          cases e3 : g_t c n r.2 44 with
          | none => exact ⟨s, _, a13', a14, a15, a16, rfl, kc, hb2⟩
          | some p2 =>
            have h2 := g_t_ok hg.2.1 (by decide) e3
            dsimp only
            by_cases e4 : 97 ≤ g_h c n p2 ∧ g_h c n p2 ≤ 122
            · rw [if_pos e4, g_bd_s kn h2.2]
              exact m_bd k hN e (d + 1) p2 s (as ++ [r.1]) (b ||| g_vs r.1) o _ a13' a14 a15 a16 (by rw [List.length_append]; simp only [List.length_cons, List.length_nil]; omega) (by omega) h2.2 (Or.inr e4) hb2 kc
            · rw [if_neg e4, g_cms_s kn h2.2]
              exact m_cms k hN (as := as ++ [r.1]) (by rw [List.length_append]; simp only [List.length_cons, List.length_nil]; omega) (by rw [List.length_append]; simp only [List.length_cons, List.length_nil]; omega) hb2 2 (d + 1) 0 p2 s [] o a14 a15 a16 (by omega) (by omega) h2.2 (Nat.zero_le _) (Or.inr e4) kc
    · have ha0 : as = [] := by
        rcases hn with q | q
        · exact q
        · exact absurd q e1
      subst ha0
      have e94 : ∀ Y : Option (Int32 × MS), (if Int32.ofNat (g_h c n p) < Int32.ofNat 97 then fn_Md_body_94 N (fn_Md_body_4 N (d + 1)) (Int32.ofNat 0) (qs S (g_s c n p) (Int32.ofInt 0) b o s a12 a13 a14 a15 a16) else if Int32.ofNat 122 < Int32.ofNat (g_h c n p) then fn_Md_body_94 N (fn_Md_body_4 N (d + 1)) (Int32.ofNat 0) (qs S (g_s c n p) (Int32.ofInt 0) b o s a12 a13 a14 a15 a16) else Y) = fn_Md_body_94 N (fn_Md_body_4 N (d + 1)) (Int32.ofNat 0) (qs S (g_s c n p) (Int32.ofInt 0) b o s a12 a13 a14 a15 a16) := by
        intro Y
        by_cases q1 : g_h c n p < 97
        · rw [if_pos (n_ltT q1 (by omega))]
        · rw [if_neg (n_ltF (by omega) (by omega)), if_pos (n_ltT (by omega) (by omega))]
      rw [e94]
      unfold fn_Md_body_94 fn_Md_body_115
      rw [n_2, if_neg (by decide), qs_g19, k.2.2.1, if_pos h12, qs_h12, n_nat (by omega), hb.1, if_pos (show Int32.ofNat ([] : List g_A).length = 0 from rfl)]
      unfold fn_Md_body_120
      rw [if_pos n_b1, qs_s20, qs_g20, if_neg n_ne10, m_134w]
      have hga : g_at c n p = none := by unfold g_at; rw [if_neg e1]
      cases e with
      | zero => simp at ha
      | succ e =>
        unfold g_bd
        rw [hga]
        exact ⟨_, _, _, _, _, _, _, _, _, by omega, rfl, kc.2.2, hb.2.2⟩
theorem m_body (k : q_ok c n t sl S) (hN : 60 ≤ N) {p s : Nat} (hp : p ≤ n) {b o : Int32} {a12 a13 a14 a15 a16 : Nat → Int32} (h12 : a12 sl = Int32.ofNat 0) (h14 : a14 sl = Int32.ofNat 0) :
    mb_sp n sl S a12 a13 a14 a15 (g_bd c n o 3 p [] b) (fn_Md_body N (qs S p (Int32.ofInt 0) b o s a12 a13 a14 a15 a16)) := by
  unfold fn_Md_body fn_Md_body_0
  rw [n_0]
  exact m_bd k hN 3 N p s [] b o a12 a13 a14 a15 a16 rfl (by omega) hp (Or.inl rfl) ⟨h12, (fun i x e => by cases e), fun _ _ => rfl, fun _ _ => rfl⟩ ⟨h14, (fun i x e => by cases e), fun _ _ => rfl, fun _ _ => rfl⟩
end MR
