/-! ### The reference's comparisons and bodies -/
def ms_bad1 (n sl : Nat) (S : MS) (b : Int32) (a12 a13 A14 A15 : Nat → Int32) (F : Option (Int32 × MS)) : Prop := ∃ q o' s' a14' a15' a16', q ≤ n + 1 ∧ F = some (0, qs S q (Int32.ofInt 1) b o' s' a12 a13 a14' a15' a16') ∧ cdf sl A14 A15 a14' a15'
def ms_sp1 (n sl : Nat) (S : MS) (b : Int32) (a12 a13 A14 A15 : Nat → Int32) (R : Option g_E) (F : Option (Int32 × MS)) : Prop := match R with
  | some r => ∃ s' a14' a15' a16', F = some (0, qs S r.1 (Int32.ofInt 0) b r.2.2 s' a12 a13 a14' a15' a16') ∧ cd sl A14 A15 a14' a15' r.2.1
  | none => ms_bad1 n sl S b a12 a13 A14 A15 F
section MB
variable {N : Nat} {c : Nat → Nat} {n t sl : Nat} {S : MS} {b : Int32} {a12 a13 A12 A13 A14 A15 : Nat → Int32}
theorem m_67 {q s : Nat} {x o : Int32} {a14 a15 a16 : Nat → Int32} {w : Int32} : fn_Md_comparison_67 N x (qs S q w b o s a12 a13 a14 a15 a16) = some (0, qs S (q + 1) (Int32.ofInt 1) b o s a12 a13 a14 a15 a16) := by
  unfold fn_Md_comparison_67 fn_Md_comparison_72 fn_Md_comparison_96 fn_Md_comparison_108
  have ad1 : ∀ q : Nat, Int32.ofNat q + Int32.ofInt 1 = Int32.ofNat (q + 1) := fun q => by rw [n_1, n_add]
  rw [if_pos n_b1]
  simp only [qs_u20, qs_g16, ad1, qs_u16, qs_pr, qs_g20, if_neg n_ne10]
theorem m_54 (k : q_ok c n t sl S) (hN : 60 ≤ N) {q s : Nat} (hq : q + 1 ≤ n) {x : Nat} (hx : x = 60 ∨ x = 62 ∨ x = 61 ∨ x = 35) {o : Int32} {a14 a15 a16 : Nat → Int32} {l : List Int} (hl : l.length ≤ q) (kc : cd sl A14 A15 a14 a15 l) :
    ms_sp1 n sl S b a12 a13 A14 A15 ((g_sum c n 6 0 (q + 1) l o).bind fun r2 => some (r2.1, r2.2.1 ++ [-((x : Nat) : Int)], r2.2.2)) (fn_Md_comparison_54 N (Int32.ofInt (g_enc (-(x : Int)))) (qs S q (Int32.ofInt 0) b o s a12 a13 a14 a15 a16)) := by
  have kn := k.2.2.2.1
  have ad1 : ∀ q : Nat, Int32.ofNat q + Int32.ofInt 1 = Int32.ofNat (q + 1) := fun q => by rw [n_1, n_add]
  have hne : ¬ Int32.ofInt (g_enc (-(x : Int))) = 0 := by rcases hx with rfl | rfl | rfl | rfl <;> decide
  unfold fn_Md_comparison_54 fn_Md_comparison_72
  rw [qs_g20, if_pos n_e00, if_neg hne, if_pos n_b0]
  simp only [qs_u20, qs_g16, ad1, qs_u16, qs_pr, qs_g20, n_e00, if_true]
  have k1 := m_sum (N := N) (b := b) (a12 := a12) (a13 := a13) (s := s) (m := o) (a16 := a16) k hN hq (show l.length ≤ q + 1 by omega) kc
  rw [n_e00] at k1
  cases e1 : g_sum c n 6 0 (q + 1) l o with
  | none =>
    rw [e1] at k1
    obtain ⟨q', o', s', a14', a15', a16', hq', k1, kf⟩ := k1
    rw [k1, Option.bind_some, Option.bind_none]
    unfold fn_Md_comparison_96 fn_Md_comparison_108
    dsimp only
    rw [qs_g20, if_neg n_ne10]
    exact ⟨q', o', s', a14', a15', a16', by omega, rfl, kf⟩
  | some r =>
    rw [e1] at k1
    obtain ⟨s', a14', a15', a16', k1, kc'⟩ := k1
    have hb := g_sum_bnd 6 0 _ _ _ _ hq e1
    rw [k1, Option.bind_some, Option.bind_some]
    unfold fn_Md_comparison_96 fn_Md_comparison_108
    dsimp only
    rw [qs_g20, if_pos n_e00, m_emit k kc' (by omega), Option.bind_some]
    exact ⟨s', _, _, a16', rfl, cd_app kc' (by omega) _⟩
theorem m_cmp (k : q_ok c n t sl S) (hN : 60 ≤ N) {p s : Nat} (hp : p ≤ n) {o : Int32} {a14 a15 a16 : Nat → Int32} {l : List Int} (hl : l.length ≤ p) (kc : cd sl A14 A15 a14 a15 l) :
    ms_sp1 n sl S b a12 a13 A14 A15 (g_cmp c n p l o) (fn_Md_comparison N (qs S p (Int32.ofInt 0) b o s a12 a13 a14 a15 a16)) := by
  have kn := k.2.2.2.1
  unfold fn_Md_comparison fn_Md_comparison_0 g_cmp
  have k1 := m_sum (N := N) (b := b) (a12 := a12) (a13 := a13) (s := s) (m := o) (a16 := a16) k hN hp hl kc
  cases e1 : g_sum c n 6 0 p l o with
  | none =>
    rw [e1] at k1
    obtain ⟨q', o', s', a14', a15', a16', hq', k1, kf⟩ := k1
    have hs := g_s_le (c := c) hq'
    rw [k1, Option.bind_some, Option.bind_none]
    dsimp only
    rw [m_here k (by omega) (by omega), Option.bind_some]
    dsimp only
    have e54 : ∀ x : Int32, fn_Md_comparison_54 N x (qs S (g_s c n q') (Int32.ofInt 1) b o' s' a12 a13 a14' a15' a16') = some (0, qs S (g_s c n q' + 1) (Int32.ofInt 1) b o' s' a12 a13 a14' a15' a16') := by
      intro x
      unfold fn_Md_comparison_54
      rw [qs_g20, if_neg n_ne10, m_67]
    simp only [e54, ite_self]
    exact ⟨_, o', s', a14', a15', a16', by omega, rfl, kf⟩
  | some r =>
    rw [e1] at k1
    obtain ⟨s', a14', a15', a16', k1, kc'⟩ := k1
    have hb := g_sum_bnd 6 0 _ _ _ _ hp e1
    have hs := g_s_le (c := c) hb.2.1
    have hh := q_h_le k r.1
    rw [k1, Option.bind_some, Option.bind_some]
    dsimp only
    rw [m_here k (by omega) (by omega), Option.bind_some]
    dsimp only
    rw [n_c60, n_c62, n_c61, n_c35]
    have go : ∀ x : Nat, (x = 60 ∨ x = 62 ∨ x = 61 ∨ x = 35) → g_h c n r.1 = x → ms_sp1 n sl S b a12 a13 A14 A15 (if g_isc (g_h c n r.1) = true then (g_sum c n 6 0 (g_s c n r.1 + 1) r.2.1 r.2.2).bind fun r2 => some (r2.1, r2.2.1 ++ [-((g_h c n r.1 : Nat) : Int)], r2.2.2) else none) (fn_Md_comparison_54 N (Int32.ofInt (g_enc (-(x : Int)))) (qs S (g_s c n r.1) (Int32.ofInt 0) b r.2.2 s' a12 a13 a14' a15' a16')) := by
      intro x hx e
      have hlt := g_h_lt (c := c) (n := n) (p := r.1) (by omega)
      rw [e, if_pos (by rcases hx with rfl | rfl | rfl | rfl <;> rfl)]
      exact m_54 k hN (by omega) hx (by omega) kc'
    by_cases g1 : g_h c n r.1 = 60
    · rw [if_pos (n_eqT g1), show (Int8.ofInt (-21)).toInt32 = Int32.ofInt (g_enc (-((60 : Nat) : Int))) by decide]
      exact go 60 (by omega) g1
    · rw [if_neg (n_eqF g1 (by omega) (by omega))]
      by_cases g2 : g_h c n r.1 = 62
      · rw [if_pos (n_eqT g2), show (Int8.ofInt (-22)).toInt32 = Int32.ofInt (g_enc (-((62 : Nat) : Int))) by decide]
        exact go 62 (by omega) g2
      · rw [if_neg (n_eqF g2 (by omega) (by omega))]
        by_cases g3 : g_h c n r.1 = 61
        · rw [if_pos (n_eqT g3), show (Int8.ofInt (-23)).toInt32 = Int32.ofInt (g_enc (-((61 : Nat) : Int))) by decide]
          exact go 61 (by omega) g3
        · rw [if_neg (n_eqF g3 (by omega) (by omega))]
          by_cases g4 : g_h c n r.1 = 35
          · rw [if_pos (n_eqT g4), show (Int8.ofInt (-24)).toInt32 = Int32.ofInt (g_enc (-((35 : Nat) : Int))) by decide]
            exact go 35 (by omega) g4
          · have hni : ¬ g_isc (g_h c n r.1) = true := by unfold g_isc; simp [g1, g2, g3, g4]
            rw [if_neg (n_eqF g4 (by omega) (by omega)), if_neg hni]
            unfold fn_Md_comparison_54
            rw [qs_g20, if_pos n_e00, if_pos n_e00, m_67]
            exact ⟨_, _, _, _, _, _, by omega, rfl, kc'.2.2⟩
def bdf (sl : Nat) (A12 A13 a12 a13 : Nat → Int32) : Prop := (∀ j, j ≠ sl → a12 j = A12 j) ∧ ∀ j, j < 16 * sl + 4 ∨ 16 * sl + 16 ≤ j → a13 j = A13 j
def bdm (sl : Nat) (A12 A13 a12 a13 : Nat → Int32) (as : List g_A) : Prop := a12 sl = Int32.ofNat as.length ∧ (∀ i x, as[i]? = some x → am_rep a13 (16 * sl + 4 * (i + 1)) x) ∧ bdf sl A12 A13 a12 a13
def mb_bad (n sl : Nat) (S : MS) (A12 A13 A14 A15 : Nat → Int32) (F : Option (Int32 × MS)) : Prop := ∃ q b' o' s' a12' a13' a14' a15' a16', q ≤ n + 1 ∧ F = some (0, qs S q (Int32.ofInt 1) b' o' s' a12' a13' a14' a15' a16') ∧ cdf sl A14 A15 a14' a15' ∧ bdf sl A12 A13 a12' a13'
def mb_sp (n sl : Nat) (S : MS) (A12 A13 A14 A15 : Nat → Int32) (R : Option ((List g_A × Int32) × g_E)) (F : Option (Int32 × MS)) : Prop := match R with
  | some r => ∃ s' a12' a13' a14' a15' a16', F = some (0, qs S r.2.1 (Int32.ofInt 0) r.1.2 r.2.2.2 s' a12' a13' a14' a15' a16') ∧ cd sl A14 A15 a14' a15' r.2.2.1 ∧ bdm sl A12 A13 a12' a13' r.1.1
  | none => mb_bad n sl S A12 A13 A14 A15 F
theorem m_bw {d p s : Nat} {x1 x2 o : Int32} {a14 a15 a16 : Nat → Int32} : fn_Md_body_4 N (d + 1) x1 x2 (qs S p (Int32.ofInt 1) b o s a12 a13 a14 a15 a16) = some (0, qs S p (Int32.ofInt 1) b o s a12 a13 a14 a15 a16) := by
  unfold fn_Md_body_4 fn_Md_body_159
  by_cases h : x2 = 0
  · rw [if_pos h]
  · rw [if_neg h, qs_g20, if_neg n_ne10]
theorem m_134w {d p s : Nat} {x1 o : Int32} {a14 a15 a16 : Nat → Int32} : fn_Md_body_134 N (fn_Md_body_4 N (d + 1)) x1 (qs S p (Int32.ofInt 1) b o s a12 a13 a14 a15 a16) = some (0, qs S p (Int32.ofInt 1) b o s a12 a13 a14 a15 a16) := by
  unfold fn_Md_body_134 fn_Md_body_154 fn_Md_body_155
  rw [qs_g20, if_neg n_ne10, m_bw]
theorem m_134 (k : q_ok c n t sl S) (hN : 60 ≤ N) {d p s : Nat} (hp : p ≤ n) {x1 o : Int32} {a14 a15 a16 : Nat → Int32} : fn_Md_body_134 N (fn_Md_body_4 N (d + 1)) x1 (qs S p (Int32.ofInt 0) b o s a12 a13 a14 a15 a16) = match g_t c n p 44 with
    | none => some (0, qs S (g_s c n p) (Int32.ofInt 0) b o s a12 a13 a14 a15 a16)
    | some q => fn_Md_body_4 N (d + 1) x1 (Int32.ofInt 1) (qs S q (Int32.ofInt 0) b o s a12 a13 a14 a15 a16) := by
  unfold fn_Md_body_134 fn_Md_body_154 fn_Md_body_155
  rw [qs_g20, if_pos n_e00, n_c44, m_next k (by omega) (by omega) (by omega)]
  cases e : g_t c n p 44 with
  | none =>
    simp only [Option.bind_some, n_e00, if_true]
    unfold fn_Md_body_4 fn_Md_body_159
    exact if_pos rfl
  | some q => simp only [Option.bind_some, if_neg n_ne10]
/-- the comparisons -/
theorem m_cms (k : q_ok c n t sl S) (hN : 60 ≤ N) {as : List g_A} (has : 1 ≤ as.length) (has3 : as.length ≤ 3) (hbm : bdm sl A12 A13 a12 a13 as) : ∀ (e d i p : Nat) (s : Nat) (l : List Int) (o : Int32) (a14 a15 a16 : Nat → Int32), i + e = 2 → e + 2 ≤ d → p ≤ n → l.length ≤ p → (1 ≤ i ∨ ¬ (97 ≤ g_h c n p ∧ g_h c n p ≤ 122)) → cd sl A14 A15 a14 a15 l →
    mb_sp n sl S A12 A13 A14 A15 ((g_cms c n e p l o).bind fun r => some ((as, b), r)) (fn_Md_body_4 N d (Int32.ofNat i) (Int32.ofInt 1) (qs S p (Int32.ofInt 0) b o s a12 a13 a14 a15 a16))
  | e, 0, i, p, s, l, o, a14, a15, a16, hi, hd, hp, hl, hnm, kc => absurd hd (by omega)
  | e, d + 1, i, p, s, l, o, a14, a15, a16, hi, hd, hp, hl, hnm, kc => by
    have kn := k.2.2.2.1
    have k6 := k.2.2.2.2.2.1
    have hs := g_s_le (c := c) hp
    have hh := q_h_le k p
    obtain ⟨d', rfl⟩ : ∃ d', d = d' + 1 := ⟨d - 1, by omega⟩
    have h12 : md_in (Int32.ofNat sl) (md_len 12) = true := by rw [n_in (by omega), ml12]; omega
    conv => arg 9; unfold fn_Md_body_4
    rw [if_neg n_ne10, qs_g20, if_pos n_e00, m_here k (by omega) (by omega), Option.bind_some]
    dsimp only
    rw [n_c97, n_c122]
    have e94 : ∀ Y : Option (Int32 × MS), (if Int32.ofNat (g_h c n p) < Int32.ofNat 97 then fn_Md_body_94 N (fn_Md_body_4 N (d' + 1)) (Int32.ofNat i) (qs S (g_s c n p) (Int32.ofInt 0) b o s a12 a13 a14 a15 a16) else if Int32.ofNat 122 < Int32.ofNat (g_h c n p) then fn_Md_body_94 N (fn_Md_body_4 N (d' + 1)) (Int32.ofNat i) (qs S (g_s c n p) (Int32.ofInt 0) b o s a12 a13 a14 a15 a16) else if Int32.ofNat i = 0 then Y else fn_Md_body_94 N (fn_Md_body_4 N (d' + 1)) (Int32.ofNat i) (qs S (g_s c n p) (Int32.ofInt 0) b o s a12 a13 a14 a15 a16)) = fn_Md_body_94 N (fn_Md_body_4 N (d' + 1)) (Int32.ofNat i) (qs S (g_s c n p) (Int32.ofInt 0) b o s a12 a13 a14 a15 a16) := by
      intro Y
      by_cases q1 : g_h c n p < 97
      · rw [if_pos (n_ltT q1 (by omega))]
      · rw [if_neg (n_ltF (by omega) (by omega))]
        by_cases q2 : 122 < g_h c n p
        · rw [if_pos (n_ltT q2 (by omega))]
        · rw [if_neg (n_ltF (by omega) (by omega)), if_neg (n_ne0 (by omega) (by omega))]
    rw [e94]
    unfold fn_Md_body_94 fn_Md_body_115
    rw [n_2, n_1, n_add]
    cases e with
    | zero =>
      rw [if_pos (n_ltT (by omega) (by omega))]
      unfold fn_Md_body_120
      rw [if_pos (show md_01 (Int32.ofNat 1) = true from rfl), qs_s20, qs_g20, if_neg (show ¬ Int32.ofNat 1 = 0 from n_ne10)]
      rw [show Int32.ofNat 1 = Int32.ofInt 1 from rfl, m_134w]
      exact ⟨_, _, _, _, _, _, _, _, _, by omega, rfl, kc.2.2, hbm.2.2⟩
    | succ e =>
      rw [if_neg (n_ltF (by omega) (by omega)), qs_g19, k.2.2.1, if_pos h12, qs_h12, n_nat (by omega), hbm.1, if_neg (n_ne0 (by omega) (by omega))]
      unfold fn_Md_body_120
      rw [if_pos n_b0, qs_s20, qs_g20, if_pos n_e00]
      have k1 := m_cmp (N := N) (b := b) (a12 := a12) (a13 := a13) (s := s) (o := o) (a16 := a16) k hN hs.2 (show l.length ≤ g_s c n p by omega) kc
      have eg : g_cmp c n (g_s c n p) l o = g_cmp c n p l o := by
        unfold g_cmp
        have : g_sum c n 6 0 (g_s c n p) l o = g_sum c n 6 0 p l o := by
          rw [← y_top kn hp, ← y_top kn hs.2, y_goT hp, y_goT hs.2, g_h_s hp, g_s_s hp]
        rw [this]
      rw [eg] at k1
      unfold g_cms
      cases e1 : g_cmp c n p l o with
      | none =>
        rw [e1] at k1
        obtain ⟨q', o', s', a14', a15', a16', hq', k1, kf⟩ := k1
        rw [k1, Option.bind_some, Option.bind_none, Option.bind_none]
        dsimp only
        rw [m_134w]
        exact ⟨_, _, _, _, _, _, _, _, _, hq', rfl, kf, hbm.2.2⟩
      | some r =>
        rw [e1] at k1
        obtain ⟨s', a14', a15', a16', k1, kc'⟩ := k1
        have hb := g_cmp_bnd _ _ _ _ hp e1
        rw [k1, Option.bind_some, Option.bind_some]
        dsimp only
        rw [m_134 k hN hb.2.1]
        cases e2 : g_t c n r.1 44 with
        | none =>
          simp only [Option.bind_some]
          exact ⟨s', a12, a13, a14', a15', a16', rfl, kc', hbm⟩
        | some p2 =>
          have h2 := g_t_ok hb.2.1 (by decide) e2
          exact m_cms k hN has has3 hbm e (d' + 1) (i + 1) p2 s' r.2.1 r.2.2 a14' a15' a16' (by omega) (by omega) h2.2 (by omega) (Or.inl (by omega)) kc'
theorem g_cms_name {d p : Nat} {l : List Int} {m : Int32} (hp : p ≤ n) (h : 97 ≤ g_h c n p ∧ g_h c n p ≤ 122) : g_cms c n d p l m = none := by
  have hlt := g_h_lt (c := c) (n := n) (p := p) (by omega)
  have hd : g_d c n (g_s c n p) = none := by
    have : g_dc c n 5 (g_s c n p) = 0 := by
      refine if_neg (fun q => ?_)
      have h2 : g_h c n p = c (g_s c n p) := if_pos hlt
      omega
    unfold g_d
    rw [this, if_pos (Or.inl rfl)]
  cases d with
  | zero => rfl
  | succ d =>
    have hf : ∀ K, g_fac K c n 0 p l m = none := by
      intro K
      unfold g_fac
      rw [if_neg (by omega), if_neg (by omega), hd]
      rfl
    unfold g_cms g_cmp
    have : g_sum c n 6 0 p l m = none := by
      unfold g_sum g_sm g_pro
      rw [hf]; rfl
    rw [this]; rfl
theorem g_at_s {p : Nat} (hp : p ≤ n) : g_at c n (g_s c n p) = g_at c n p := by
  unfold g_at; rw [g_h_s hp, g_s_s hp]
end MB
