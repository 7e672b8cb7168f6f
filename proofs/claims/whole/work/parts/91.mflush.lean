/-! ### The reference's code and its stack of signs -/
/-- a step as the reference keeps it -/
def g_enc (x : Int) : Int := if 1048576 ≤ x then -1 - (x - 1048576) else if 0 ≤ x then x else if x = -43 then -11 else if x = -45 then -12 else if x = -42 then -13 else if x = -47 then -14 else if x = -60 then -21 else if x = -62 then -22 else if x = -61 then -23 else -24
/-- the code at slot sl says l; elsewhere the arrays are A14 and A15 -/
def cdf (sl : Nat) (A14 A15 a14 a15 : Nat → Int32) : Prop := (∀ j, j ≠ sl → a14 j = A14 j) ∧ ∀ j, j < 48 * sl ∨ 48 * sl + 48 ≤ j → a15 j = A15 j
def cd (sl : Nat) (A14 A15 a14 a15 : Nat → Int32) (l : List Int) : Prop := a14 sl = Int32.ofNat l.length ∧ (∀ i x, l[i]? = some x → a15 (48 * sl + i) = Int32.ofInt (g_enc x)) ∧ cdf sl A14 A15 a14 a15
def sg_rep (a16 : Nat → Int32) : List Nat → Prop
  | [] => True
  | x :: σ => a16 σ.length = Int32.ofNat x ∧ sg_rep a16 σ
theorem sg_upd {a16 : Nat → Int32} : ∀ {σ : List Nat} {k : Nat} {x : Int32}, σ.length ≤ k → sg_rep a16 σ → sg_rep (upd a16 k x) σ
  | [], _, _, _, _ => trivial
  | y :: σ, k, x, h, r => ⟨by
      simp only [List.length_cons] at h
      rw [upd_ne (by omega)]; exact r.1, sg_upd (by simp only [List.length_cons] at h; omega) r.2⟩
theorem y_fl_len (t : Bool) : ∀ (σ : List Nat) (l : List Int), (y_fl t σ l).1.length + (y_fl t σ l).2.length = σ.length + l.length
  | [], l => by simp [y_fl]
  | x :: σ, l => by
    unfold y_fl
    split
    · rfl
    · rw [y_fl_len t σ, List.length_append]
      simp only [List.length_cons, List.length_nil]
      omega
theorem y_fl_mem (t : Bool) : ∀ (σ : List Nat) (l : List Int) (x : Nat), x ∈ (y_fl t σ l).1 → x ∈ σ
  | [], l, x, h => by simp [y_fl] at h
  | y :: σ, l, x, h => by
    unfold y_fl at h
    split at h
    · exact h
    · exact List.mem_cons_of_mem _ (y_fl_mem t σ _ x h)
theorem y_fl_cnt (t : Bool) : ∀ (σ : List Nat) (l : List Int), (y_fl t σ l).1.count 40 = σ.count 40
  | [], l => rfl
  | x :: σ, l => by
    unfold y_fl
    split
    · rfl
    · next h =>
      rw [y_fl_cnt t σ, List.count_cons_of_ne]
      intro q
      exact h (Or.inl q)
theorem y_fl_top : ∀ (σ : List Nat) (l : List Int), 0 < σ.count 40 → ∃ τ, (y_fl false σ l).1 = 40 :: τ
  | [], l, h => by simp at h
  | x :: σ, l, h => by
    by_cases e : x = 40
    · subst e
      exact ⟨σ, congrArg Prod.fst (if_pos (Or.inl rfl))⟩
    · rw [y_flF e]
      refine y_fl_top σ _ ?_
      rw [List.count_cons_of_ne e] at h
      exact h
section MF
variable {N : Nat} {c : Nat → Nat} {n t sl : Nat} {S : MS} {p s : Nat} {w b o : Int32} {a12 a13 a14 a15 a16 A14 A15 : Nat → Int32}
theorem cd_app {l : List Int} (k : cd sl A14 A15 a14 a15 l) (hl : l.length < 48) (x : Int) : cd sl A14 A15 (upd a14 sl (Int32.ofNat (l.length + 1))) (upd a15 (48 * sl + l.length) (Int32.ofInt (g_enc x))) (l ++ [x]) := by
  obtain ⟨k1, k2, k3, k4⟩ := k
  refine ⟨by rw [upd_eq, List.length_append]; rfl, ?_, fun j hj => by rw [upd_ne hj, k3 j hj], fun j hj => by rw [upd_ne (by omega), k4 j hj]⟩
  intro i y hy
  by_cases e : i = l.length
  · subst e
    rw [List.getElem?_append_right (Nat.le_refl _), Nat.sub_self] at hy
    cases hy
    exact upd_eq _ _ _
  · have hlt : i < l.length := by
      have := (List.getElem?_eq_some_iff.mp hy).1
      rw [List.length_append] at this
      simp only [List.length_cons, List.length_nil] at this
      omega
    rw [List.getElem?_append_left hlt] at hy
    rw [upd_ne (by omega)]
    exact k2 i y hy
theorem m_emit (k : q_ok c n t sl S) {l : List Int} (kc : cd sl A14 A15 a14 a15 l) (hl : l.length < 48) (x : Int) : fn_Md_emit N (Int32.ofInt (g_enc x)) (qs S p w b o s a12 a13 a14 a15 a16) = some (0, qs S p w b o s a12 a13 (upd a14 sl (Int32.ofNat (l.length + 1))) (upd a15 (48 * sl + l.length) (Int32.ofInt (g_enc x))) a16) := by
  have k6 := k.2.2.2.2.2.1
  unfold fn_Md_emit fn_Md_emit_0
  have h1 : md_in (Int32.ofNat sl) (md_len 14) = true := by rw [n_in (by omega), ml14]; omega
  have h2 : md_in (Int32.ofNat (48 * sl + l.length)) (md_len 15) = true := by rw [n_in (by omega), ml15]; omega
  dsimp only
  rw [qs_g19, k.2.2.1, qs_h14, n_nat (by omega), kc.1, n_c48, n_mul, n_add, if_pos h1, if_pos h2, if_pos h1, if_pos h1, n_nat (by omega), qs_h15, qs_v15, qs_h14, kc.1, n_1, n_add, qs_v14, qs_pr]
theorem m_push {x : Int32} (hs : s < 48) : fn_Md_push N x (qs S p w b o s a12 a13 a14 a15 a16) = some (0, qs S p w b o (s + 1) a12 a13 a14 a15 (upd a16 s x)) := by
  unfold fn_Md_push fn_Md_push_0
  dsimp only
  rw [qs_g31, if_pos (by rw [n_in (by omega), ml16]; omega), n_nat (by omega), qs_h16, qs_v16, n_1, n_add, qs_u31, qs_pr]
theorem m_tl {x : Nat} (hx : x ≤ 126) : fn_Md_timesLike N (Int32.ofNat x) = some (if y_tl x = true then Int32.ofInt 1 else Int32.ofInt 0) := by
  unfold fn_Md_timesLike fn_Md_timesLike_0 fn_Md_timesLike_12 fn_Md_timesLike_17 y_tl
  rw [n_c42, n_c47]
  by_cases e1 : x = 42
  · rw [if_pos (n_eqT e1), if_pos n_b1]; simp [e1]
  · rw [if_neg (n_eqF e1 (by omega) (by omega))]
    by_cases e2 : x = 47
    · rw [if_pos (n_eqT e2), if_pos n_b1]; simp [e2]
    · rw [if_neg (n_eqF e2 (by omega) (by omega)), if_pos n_b0]; simp [e1, e2]
def sg_ch (σ : List Nat) : Prop := ∀ x, x ∈ σ → x = 40 ∨ x = 42 ∨ x = 43 ∨ x = 45 ∨ x = 47
theorem m_fl44 (k : q_ok c n t sl S) {l : List Int} (kc : cd sl A14 A15 a14 a15 l) (hl : l.length < 48) {x j : Nat} (hj : j < 48) (hx : x = 42 ∨ x = 43 ∨ x = 45 ∨ x = 47) (ha : a16 j = Int32.ofNat x) {k0 : Int32 → MS → Option (Int32 × MS)} {u : Int32} :
    fn_Md_flush_44 N k0 u (qs S p w b o (j + 1) a12 a13 a14 a15 a16) = k0 u (qs S p w b o j a12 a13 (upd a14 sl (Int32.ofNat (l.length + 1))) (upd a15 (48 * sl + l.length) (Int32.ofInt (g_enc (-(x : Int))))) a16) := by
  unfold fn_Md_flush_44 fn_Md_flush_100
  dsimp only
  rw [qs_g31, n_1, n_sub (by omega), Nat.add_sub_cancel]
  have h48 : md_in (Int32.ofNat j) (md_len 16) = true := by rw [n_in (by omega), ml16]; omega
  simp only [qs_u31, qs_pr, qs_g31, qs_h16, n_nat (show j < 2147483648 by omega), ha, n_c43, n_c45, n_c42, if_pos h48]
  rcases hx with rfl | rfl | rfl | rfl
  · rw [if_neg (by decide), if_neg (by decide), if_pos rfl, show (Int8.ofInt (-13)).toInt32 = Int32.ofInt (g_enc (-((42 : Nat) : Int))) by decide, m_emit k kc hl, Option.bind_some]
  · rw [if_pos rfl, show (Int8.ofInt (-11)).toInt32 = Int32.ofInt (g_enc (-((43 : Nat) : Int))) by decide, m_emit k kc hl, Option.bind_some]
  · rw [if_neg (by decide), if_pos rfl, show (Int8.ofInt (-12)).toInt32 = Int32.ofInt (g_enc (-((45 : Nat) : Int))) by decide, m_emit k kc hl, Option.bind_some]
  · rw [if_neg (by decide), if_neg (by decide), if_neg (by decide), show (Int8.ofInt (-14)).toInt32 = Int32.ofInt (g_enc (-((47 : Nat) : Int))) by decide, m_emit k kc hl, Option.bind_some]
theorem m_flush0 (k : q_ok c n t sl S) (u : Bool) : ∀ (σ : List Nat) (d : Nat) (l : List Int) (a14 a15 : Nat → Int32), σ.length < d → σ.length + l.length ≤ 48 → sg_ch σ → sg_rep a16 σ → cd sl A14 A15 a14 a15 l →
    ∃ a14' a15', fn_Md_flush_0 N d (if u = true then Int32.ofInt 1 else Int32.ofInt 0) (qs S p w b o σ.length a12 a13 a14 a15 a16) = some (0, qs S p w b o (y_fl u σ l).1.length a12 a13 a14' a15' a16) ∧ cd sl A14 A15 a14' a15' (y_fl u σ l).2 ∧ sg_rep a16 (y_fl u σ l).1
  | σ, 0, l, a14, a15, hd, hl, hc, hr, kc => absurd hd (by omega)
  | [], d + 1, l, a14, a15, hd, hl, hc, hr, kc => by
    refine ⟨a14, a15, ?_, kc, trivial⟩
    unfold fn_Md_flush_0 fn_Md_flush_106
    rw [qs_g31, if_pos (by decide)]
    rfl
  | x :: σ, d + 1, l, a14, a15, hd, hl, hc, hr, kc => by
    simp only [List.length_cons] at hd hl
    have hx := hc x List.mem_cons_self
    have hx1 : x ≤ 126 := by omega
    have h48 : md_in (Int32.ofNat σ.length) (md_len 16) = true := by rw [n_in (by omega), ml16]; omega
    have e0 : (qs S p w b o (x :: σ).length a12 a13 a14 a15 a16).1 31 - Int32.ofInt 1 = Int32.ofNat σ.length := by
      rw [qs_g31, n_1, List.length_cons, n_sub (by omega), Nat.add_sub_cancel]
    have e1 : ¬ (qs S p w b o (x :: σ).length a12 a13 a14 a15 a16).1 31 ≤ 0 := by
      rw [qs_g31, n_z]
      exact n_leF (by simp only [List.length_cons]; omega) (by simp only [List.length_cons]; omega)
    have e2 : (qs S p w b o (x :: σ).length a12 a13 a14 a15 a16).2 16 = a16 := rfl
    unfold fn_Md_flush_0
    rw [if_neg e1, e0, e2, if_pos h48, n_nat (by omega), hr.1, n_c40]
    by_cases e3 : x = 40
    · rw [if_pos (n_eqT e3), show y_fl u (x :: σ) l = (x :: σ, l) from if_pos (Or.inl e3)]
      exact ⟨a14, a15, rfl, kc, hr⟩
    · rw [if_neg (n_eqF e3 (by omega) (by omega))]
      have go : y_fl u (x :: σ) l = y_fl u σ (l ++ [-(x : Int)]) → ∃ a14' a15', fn_Md_flush_44 N (fn_Md_flush_0 N d) (if u = true then Int32.ofInt 1 else Int32.ofInt 0) (qs S p w b o (x :: σ).length a12 a13 a14 a15 a16) = some (0, qs S p w b o (y_fl u (x :: σ) l).1.length a12 a13 a14' a15' a16) ∧ cd sl A14 A15 a14' a15' (y_fl u (x :: σ) l).2 ∧ sg_rep a16 (y_fl u (x :: σ) l).1 := by
        intro q
        rw [q]
        have e4 := m_fl44 (N := N) (p := p) (w := w) (b := b) (o := o) (a12 := a12) (a13 := a13) (k0 := fn_Md_flush_0 N d) (u := if u = true then Int32.ofInt 1 else Int32.ofInt 0) k kc (by omega) (show σ.length < 48 by omega) (show x = 42 ∨ x = 43 ∨ x = 45 ∨ x = 47 by omega) hr.1
        rw [List.length_cons, e4]
        exact m_flush0 k u σ d (l ++ [-(x : Int)]) _ _ (by omega) (by rw [List.length_append]; simp only [List.length_cons, List.length_nil]; omega) (fun y hy => hc y (List.mem_cons_of_mem _ hy)) hr.2 (cd_app kc (by omega) _)
      cases u with
      | false =>
        rw [if_pos (show (if false = true then Int32.ofInt 1 else Int32.ofInt 0) = 0 from rfl)]
        exact go (y_flF e3)
      | true =>
        rw [if_neg (show ¬ (if true = true then Int32.ofInt 1 else Int32.ofInt 0) = 0 by decide), if_pos h48, m_tl hx1, Option.bind_some]
        by_cases e5 : y_tl x = true
        · rw [if_pos e5, if_neg n_ne10]
          exact go (y_flT e5 true)
        · rw [if_neg e5, if_pos n_e00, show y_fl true (x :: σ) l = (x :: σ, l) from if_pos (Or.inr ⟨rfl, by simpa using e5⟩)]
          exact ⟨a14, a15, rfl, kc, hr⟩
theorem m_flush (k : q_ok c n t sl S) (hN : 60 ≤ N) (u : Bool) {σ : List Nat} {l : List Int} (h1 : σ.length + l.length ≤ 48) (h2 : sg_ch σ) (h3 : sg_rep a16 σ) (h4 : cd sl A14 A15 a14 a15 l) :
    ∃ a14' a15', fn_Md_flush N (if u = true then Int32.ofInt 1 else Int32.ofInt 0) (qs S p w b o σ.length a12 a13 a14 a15 a16) = some (0, qs S p w b o (y_fl u σ l).1.length a12 a13 a14' a15' a16) ∧ cd sl A14 A15 a14' a15' (y_fl u σ l).2 ∧ sg_rep a16 (y_fl u σ l).1 :=
  m_flush0 k u σ N l a14 a15 (by omega) h1 h2 h3 h4
theorem m_ls9 (k : q_ok c n t sl S) : ∀ (d q : Nat), n < q + d → q ≤ n → fn_Md_lastStar_9 N d (Int32.ofInt 1) (Int32.ofNat q) (qs S p w b o s a12 a13 a14 a15 a16) = some (if g_s c n q = n then Int32.ofInt 1 else Int32.ofInt 0, qs S p w b o s a12 a13 a14 a15 a16) := by
  have kn := k.2.2.2.1
  have zer : ∀ (d q : Nat), n < q + d → q ≤ n → fn_Md_lastStar_9 N d (Int32.ofInt 0) (Int32.ofNat q) (qs S p w b o s a12 a13 a14 a15 a16) = some (Int32.ofInt 0, qs S p w b o s a12 a13 a14 a15 a16) := by
    intro d
    induction d with
    | zero => intro q hd hq; exact absurd hd (by omega)
    | succ d ih =>
      intro q hd hq
      unfold fn_Md_lastStar_9
      rw [qs_g18, k.2.1]
      rcases Nat.lt_or_ge q n with h2 | h2
      · rw [if_neg (n_leF h2 (by omega)), if_pos n_e00]
        unfold fn_Md_lastStar_35 fn_Md_lastStar_36
        rw [n_1, n_add]
        exact ih (q + 1) (by omega) (by omega)
      · rw [if_pos (n_leT h2 (by omega)), if_pos n_b0]
  intro d
  induction d with
  | zero => intro q hd hq; exact absurd hd (by omega)
  | succ d ih =>
    intro q hd hq
    unfold fn_Md_lastStar_9
    rw [qs_g18, k.2.1]
    rcases Nat.lt_or_ge q n with h2 | h2
    · obtain ⟨hf, hc1, hc2⟩ := k.2.2.2.2.2.2 q h2
      rw [if_neg (n_leF h2 (by omega)), if_neg n_ne10, m_peek k (by omega), Option.bind_some]
      dsimp only
      rw [show g_c c n q = c q from if_pos h2, n_c32]
      unfold fn_Md_lastStar_35 fn_Md_lastStar_36
      by_cases e : c q = 32
      · rw [if_pos (n_eqT e), show Int32.ofNat q + Int32.ofInt 1 = Int32.ofNat (q + 1) by rw [n_1, n_add], ih (q + 1) (by omega) (by omega), g_s_step h2 e]
      · rw [if_neg (n_eqF e (by omega) (by omega)), show Int32.ofNat q + Int32.ofInt 1 = Int32.ofNat (q + 1) by rw [n_1, n_add], zer d (q + 1) (by omega) (by omega), g_s_here h2 e, if_neg (by omega)]
    · rw [if_pos (n_leT h2 (by omega)), if_pos n_b1, g_s_end h2, if_pos (by omega)]
theorem m_lastStar (k : q_ok c n t sl S) (hN : 60 ≤ N) (hp : p ≤ n) (h42 : g_h c n p = 42) : fn_Md_lastStar N (qs S (g_s c n p) w b o s a12 a13 a14 a15 a16) = some (if g_ls c n p = true then Int32.ofInt 1 else Int32.ofInt 0, qs S (g_s c n p) w b o s a12 a13 a14 a15 a16) := by
  have kn := k.2.2.2.1
  have hlt := g_h_lt (c := c) (n := n) (p := p) (by omega)
  unfold fn_Md_lastStar fn_Md_lastStar_0
  rw [qs_g16, show Int32.ofNat (g_s c n p) + Int32.ofInt 1 = Int32.ofNat (g_s c n p + 1) by rw [n_1, n_add], m_ls9 k N _ (by omega) (by omega)]
  unfold g_ls
  simp [h42]
end MF
