/-! ### The reference's sums -/
def ms_bad (n sl : Nat) (S : MS) (b : Int32) (a12 a13 A14 A15 : Nat → Int32) (F : Option (Int32 × MS)) : Prop := ∃ q o' s' a14' a15' a16', q ≤ n ∧ F = some (0, qs S q (Int32.ofInt 1) b o' s' a12 a13 a14' a15' a16') ∧ cdf sl A14 A15 a14' a15'
def ms_sp (n sl : Nat) (S : MS) (b : Int32) (a12 a13 A14 A15 : Nat → Int32) (R : Option g_E) (F : Option (Int32 × MS)) : Prop := match R with
  | some r => ∃ s' a14' a15' a16', F = some (0, qs S r.1 (Int32.ofInt 0) b r.2.2 s' a12 a13 a14' a15' a16') ∧ cd sl A14 A15 a14' a15' r.2.1
  | none => ms_bad n sl S b a12 a13 A14 A15 F
theorem g_bit_c {x : Nat} (h1 : 65 ≤ x) : g_bit (1048576 + ((x - 65 : Nat) : Int)) = Int32.ofInt 1 <<< ((Int32.ofNat x - Int32.ofNat 65) &&& 31) := by
  unfold g_bit
  rw [if_neg (by omega), Int32.ofInt_add, n_sub h1]
  show Int32.ofInt 1 <<< (((1048576 : Int32) + Int32.ofNat (x - 65) - 1048576) &&& 31) = _
  rw [Int32.add_comm, Int32.add_sub_cancel]
theorem g_enc_c {x : Nat} (h1 : 65 ≤ x) : Int32.ofNat 65 - Int32.ofNat x - Int32.ofInt 1 = Int32.ofInt (g_enc (1048576 + ((x - 65 : Nat) : Int))) := by
  unfold g_enc
  rw [if_pos (by omega)]
  show Int32.ofInt ((65 : Nat) : Int) - Int32.ofInt (x : Int) - Int32.ofInt 1 = _
  rw [← Int32.ofInt_sub, ← Int32.ofInt_sub]
  congr 1
  omega
theorem g_enc_n {v : Nat} (h : v < 1048576) : Int32.ofNat v = Int32.ofInt (g_enc (v : Int)) := by
  unfold g_enc
  rw [if_neg (by omega), if_pos (by omega)]
  rfl
section MSU
variable {N : Nat} {c : Nat → Nat} {n t sl : Nat} {S : MS} {b : Int32} {a12 a13 A14 A15 : Nat → Int32}
theorem m_286 (k : q_ok c n t sl S) (hN : 60 ≤ N) {x : Int32} (hx : md_01 x = true) {p : Nat} {w o : Int32} {a14 a15 a16 : Nat → Int32} {σ : List Nat} {l : List Int} (h1 : σ.length + l.length ≤ 48) (h2 : sg_ch σ) (h3 : sg_rep a16 σ) (h4 : cd sl A14 A15 a14 a15 l) :
    ∃ s' a14' a15', fn_Md_sum_286 N x (qs S p w b o σ.length a12 a13 a14 a15 a16) = some (0, qs S p x b o s' a12 a13 a14' a15' a16) ∧ cd sl A14 A15 a14' a15' (y_fl false σ l).2 := by
  obtain ⟨a14', a15', e, kc, -⟩ := m_flush (N := N) (p := p) (w := x) (b := b) (o := o) (a12 := a12) (a13 := a13) k hN false h1 h2 h3 h4
  refine ⟨(y_fl false σ l).1.length, a14', a15', ?_, kc⟩
  unfold fn_Md_sum_286
  rw [if_pos hx, qs_s20]
  rw [if_neg (by decide)] at e
  rw [e, Option.bind_some]
theorem m_sw (k : q_ok c n t sl S) (hN : 60 ≤ N) {d : Nat} {x1 x2 x3 : Int32} {p : Nat} (hp : p ≤ n) {o : Int32} {a14 a15 a16 : Nat → Int32} {σ : List Nat} {l : List Int} (h1 : σ.length + l.length ≤ 48) (h2 : sg_ch σ) (h3 : sg_rep a16 σ) (h4 : cd sl A14 A15 a14 a15 l) :
    ms_bad n sl S b a12 a13 A14 A15 (fn_Md_sum_11 N (d + 1) x1 x2 x3 (qs S p (Int32.ofInt 1) b o σ.length a12 a13 a14 a15 a16)) := by
  have e : fn_Md_sum_265 N x1 x2 (qs S p (Int32.ofInt 1) b o σ.length a12 a13 a14 a15 a16) = fn_Md_sum_286 N (Int32.ofInt 1) (qs S p (Int32.ofInt 1) b o σ.length a12 a13 a14 a15 a16) := by
    unfold fn_Md_sum_265 fn_Md_sum_281
    rw [qs_g20, if_neg n_ne10]
  have e2 : fn_Md_sum_11 N (d + 1) x1 x2 x3 (qs S p (Int32.ofInt 1) b o σ.length a12 a13 a14 a15 a16) = fn_Md_sum_286 N (Int32.ofInt 1) (qs S p (Int32.ofInt 1) b o σ.length a12 a13 a14 a15 a16) := by
    unfold fn_Md_sum_11
    by_cases h : x3 = 0
    · rw [if_pos h, e]
    · rw [if_neg h, qs_g20, if_neg n_ne10, e]
  rw [e2]
  obtain ⟨s', a14', a15', q, kc⟩ := m_286 (b := b) (a12 := a12) (a13 := a13) (p := p) (w := Int32.ofInt 1) (o := o) k hN n_b1 h1 h2 h3 h4
  exact ⟨p, o, s', a14', a15', a16, hp, q, kc.2.2⟩
theorem m_end (k : q_ok c n t sl S) (hN : 60 ≤ N) {d op : Nat} (ho : op < 100) {p : Nat} (hp : p ≤ n) {m : Int32} {a14 a15 a16 : Nat → Int32} {σ : List Nat} {l : List Int} (h1 : σ.length + l.length ≤ 48) (h2 : sg_ch σ) (h3 : sg_rep a16 σ) (h4 : cd sl A14 A15 a14 a15 l) :
    ms_sp n sl S b a12 a13 A14 A15 (if 0 < op then none else some (p, (y_fl false σ l).2, m)) (fn_Md_sum_11 N (d + 1) (Int32.ofNat op) (Int32.ofInt 0) (Int32.ofInt 0) (qs S p (Int32.ofInt 0) b m σ.length a12 a13 a14 a15 a16)) := by
  unfold fn_Md_sum_11 fn_Md_sum_265 fn_Md_sum_281
  rw [if_pos n_e00, qs_g20, if_pos n_e00, if_pos n_e00]
  by_cases e : 0 < op
  · rw [if_pos e, if_neg (show ¬ Int32.ofNat op ≤ 0 from n_leF (b := 0) e (by omega))]
    obtain ⟨s', a14', a15', q, kc⟩ := m_286 (b := b) (a12 := a12) (a13 := a13) (p := p) (w := Int32.ofInt 0) (o := m) k hN n_b1 h1 h2 h3 h4
    exact ⟨p, m, s', a14', a15', a16, hp, q, kc.2.2⟩
  · rw [if_neg e, if_pos (show Int32.ofNat op ≤ 0 from n_leT (b := 0) (by omega) (by omega))]
    obtain ⟨s', a14', a15', q, kc⟩ := m_286 (b := b) (a12 := a12) (a13 := a13) (p := p) (w := Int32.ofInt 0) (o := m) k hN n_b0 h1 h2 h3 h4
    exact ⟨s', a14', a15', a16, q, kc⟩
theorem m_sum11 (k : q_ok c n t sl S) (hN : 60 ≤ N) : ∀ (e d op : Nat) (w : Bool) (σ : List Nat) (p : Nat) (l : List Int) (m : Int32) (a14 a15 a16 : Nat → Int32), e + 2 ≤ d → n + 1 ≤ p + e → p ≤ n → σ.length + l.length ≤ p → sg_ch σ → sg_rep a16 σ → σ.count 40 = op → op ≤ 4 → cd sl A14 A15 a14 a15 l →
    ms_sp n sl S b a12 a13 A14 A15 (y_run c n e op w σ p l m) (fn_Md_sum_11 N d (Int32.ofNat op) (if w = true then Int32.ofInt 1 else Int32.ofInt 0) (Int32.ofInt 1) (qs S p (Int32.ofInt 0) b m σ.length a12 a13 a14 a15 a16))
  | 0, d, op, w, σ, p, l, m, a14, a15, a16, hd, he, hp, hl, hc, hr, ho, ho4, kc => absurd he (by omega)
  | e + 1, 0, op, w, σ, p, l, m, a14, a15, a16, hd, he, hp, hl, hc, hr, ho, ho4, kc => absurd hd (by omega)
  | e + 1, d + 1, op, true, σ, p, l, m, a14, a15, a16, hd, he, hp, hl, hc, hr, ho, ho4, kc => by
    have kn := k.2.2.2.1
    have hs := g_s_le (c := c) hp
    have hh := q_h_le k p
    have ad1 : ∀ q : Nat, Int32.ofNat q + Int32.ofInt 1 = Int32.ofNat (q + 1) := fun q => by rw [n_1, n_add]
    unfold fn_Md_sum_11 y_run
    rw [if_neg n_ne10, qs_g20, if_pos n_e00, m_here k (by omega) (by omega), Option.bind_some, if_pos rfl, if_neg n_ne10]
    dsimp only
    unfold fn_Md_sum_44
    rw [n_c40]
    by_cases e1 : g_h c n p = 40
    · have hlt := g_h_lt (c := c) (n := n) (p := p) (by omega)
      rw [if_pos (n_eqT e1), if_pos (n_eqT e1), if_pos e1, ad1, n_4, e1]
      unfold fn_Md_sum_66 fn_Md_sum_262
      have hc2 : sg_ch (40 :: σ) := by
        intro x hx
        rcases List.mem_cons.mp hx with q | q
        · exact Or.inl q
        · exact hc x q
      have hr2 : sg_rep (upd a16 σ.length (Int32.ofNat 40)) (40 :: σ) := ⟨upd_eq _ _ _, sg_upd (Nat.le_refl _) hr⟩
      by_cases e2 : 4 ≤ op
      · rw [if_neg (n_leF (by omega) (by omega)), if_pos e2, if_pos n_b1, qs_s20, m_push (by omega), Option.bind_some]
        dsimp only
        rw [qs_g16, ad1, qs_s16]
        obtain ⟨d', rfl⟩ : ∃ d', d = d' + 1 := ⟨d - 1, by omega⟩
        exact m_sw (l := l) (σ := 40 :: σ) k hN (by omega) (by simp only [List.length_cons]; omega) hc2 hr2 kc
      · rw [if_pos (n_leT (by omega) (by omega)), if_neg e2, if_pos n_b0, qs_s20, m_push (by omega), Option.bind_some]
        dsimp only
        rw [qs_g16, ad1, qs_s16]
        exact m_sum11 k hN e d (op + 1) true (40 :: σ) (g_s c n p + 1) l m a14 a15 _ (by omega) (by omega) (by omega) (by simp only [List.length_cons]; omega) hc2 hr2 (by rw [List.count_cons_self, ho]) (by omega) kc
    · rw [if_neg (n_eqF e1 (by omega) (by omega)), if_neg (n_eqF e1 (by omega) (by omega)), if_neg e1, n_c65, n_c72]
      unfold fn_Md_sum_142 fn_Md_sum_262
      by_cases e2 : 65 ≤ g_h c n p ∧ g_h c n p ≤ 72
      · have hlt := g_h_lt (c := c) (n := n) (p := p) (by omega)
        rw [if_pos e2, if_neg (n_ltF (by omega) (by omega)), if_neg (n_ltF (by omega) (by omega)), qs_g27, qs_s27, g_enc_c e2.1, m_emit k kc (by omega), Option.bind_some, ← g_bit_c e2.1]
        dsimp only
        rw [qs_g16, ad1, qs_s16]
        exact m_sum11 k hN e d op false σ (g_s c n p + 1) _ _ _ _ a16 (by omega) (by omega) (by omega) (by rw [List.length_append]; simp only [List.length_cons, List.length_nil]; omega) hc hr ho ho4 (cd_app kc (by omega) _)
      · rw [if_neg e2]
        have e142 : ∀ X Y : Option (Int32 × MS), (if Int32.ofNat (g_h c n p) < Int32.ofNat 65 then X else if Int32.ofNat 72 < Int32.ofNat (g_h c n p) then X else Y) = X := by
          intro X Y
          by_cases q1 : g_h c n p < 65
          · rw [if_pos (n_ltT q1 (by omega))]
          · rw [if_neg (n_ltF (by omega) (by omega)), if_pos (n_ltT (by omega) (by omega))]
        rw [e142]
        have key := m_number (N := N) (b := b) (o := m) (s := σ.length) (a12 := a12) (a13 := a13) (a14 := a14) (a15 := a15) (a16 := a16) k (by omega) hs.2
        cases e3 : g_d c n (g_s c n p) with
        | none =>
          rw [e3] at key
          obtain ⟨v, q, hv, hq, key⟩ := key
          rw [key, Option.bind_some, Option.bind_none]
          dsimp only
          rw [g_enc_n (show v < 1048576 by omega), m_emit k kc (by omega), Option.bind_some]
          dsimp only
          obtain ⟨d', rfl⟩ : ∃ d', d = d' + 1 := ⟨d - 1, by omega⟩
          exact m_sw (l := l ++ [(v : Int)]) (σ := σ) k hN hq (by rw [List.length_append]; simp only [List.length_cons, List.length_nil]; omega) hc hr (cd_app kc (by omega) _)
        | some r =>
          rw [e3] at key
          simp only at key
          have hv := g_d_ok hs.2 (show _ = some (r.1, r.2) from e3)
          rw [key, Option.bind_some, Option.bind_some]
          dsimp only
          rw [g_enc_n (show r.1 < 1048576 by omega), m_emit k kc (by omega), Option.bind_some]
          dsimp only
          exact m_sum11 k hN e d op false σ r.2 _ _ _ _ a16 (by omega) (by omega) (by omega) (by rw [List.length_append]; simp only [List.length_cons, List.length_nil]; omega) hc hr ho ho4 (cd_app kc (by omega) _)
  | e + 1, d + 1, op, false, σ, p, l, m, a14, a15, a16, hd, he, hp, hl, hc, hr, ho, ho4, kc => by
    have kn := k.2.2.2.1
    have hs := g_s_le (c := c) hp
    have hh := q_h_le k p
    have ad1 : ∀ q : Nat, Int32.ofNat q + Int32.ofInt 1 = Int32.ofNat (q + 1) := fun q => by rw [n_1, n_add]
    unfold fn_Md_sum_11 y_run
    rw [if_neg n_ne10, qs_g20, if_pos n_e00, m_here k (by omega) (by omega), Option.bind_some, if_neg (show ¬ (false = true) by decide), if_pos n_e00]
    dsimp only
    rw [n_c41]
    have h195 : ¬ (g_h c n p = 41 ∧ 0 < op) → ms_sp n sl S b a12 a13 A14 A15 (if y_op c n p = true then y_run c n e op true (g_h c n p :: (y_fl (y_tl (g_h c n p)) σ l).1) (g_s c n p + 1) (y_fl (y_tl (g_h c n p)) σ l).2 m else if 0 < op then none else some (g_s c n p, (y_fl false σ l).2, m)) (fn_Md_sum_195 N (fn_Md_sum_11 N d) (Int32.ofNat op) (Int32.ofInt 0) (Int32.ofInt 1) (Int32.ofNat (g_h c n p)) (qs S (g_s c n p) (Int32.ofInt 0) b m σ.length a12 a13 a14 a15 a16)) := by
      intro _
      have h230 : y_op c n p = true → (g_h c n p = 42 ∨ g_h c n p = 43 ∨ g_h c n p = 45 ∨ g_h c n p = 47) → ms_sp n sl S b a12 a13 A14 A15 (y_run c n e op true (g_h c n p :: (y_fl (y_tl (g_h c n p)) σ l).1) (g_s c n p + 1) (y_fl (y_tl (g_h c n p)) σ l).2 m) (fn_Md_sum_230 N (fn_Md_sum_11 N d) (Int32.ofNat op) (Int32.ofInt 1) (Int32.ofNat (g_h c n p)) (qs S (g_s c n p) (Int32.ofInt 0) b m σ.length a12 a13 a14 a15 a16)) := by
        intro hop hch
        have hlt := g_h_lt (c := c) (n := n) (p := p) (y_op_ne hop)
        unfold fn_Md_sum_230 fn_Md_sum_262
        rw [m_tl hh, Option.bind_some]
        obtain ⟨b14, b15, f1, f2, f3⟩ := m_flush (N := N) (p := g_s c n p) (w := Int32.ofInt 0) (b := b) (o := m) (a12 := a12) (a13 := a13) k hN (y_tl (g_h c n p)) (show σ.length + l.length ≤ 48 by omega) hc hr kc
        rw [f1, Option.bind_some]
        dsimp only
        have hlen := y_fl_len (y_tl (g_h c n p)) σ l
        rw [m_push (by omega), Option.bind_some]
        dsimp only
        rw [qs_g16, ad1, qs_s16]
        have hc2 : sg_ch (g_h c n p :: (y_fl (y_tl (g_h c n p)) σ l).1) := by
          intro x hx
          rcases List.mem_cons.mp hx with q | q
          · rw [q]; exact Or.inr hch
          · exact hc x (y_fl_mem _ _ _ _ q)
        refine m_sum11 k hN e d op true (g_h c n p :: (y_fl (y_tl (g_h c n p)) σ l).1) (g_s c n p + 1) (y_fl (y_tl (g_h c n p)) σ l).2 m b14 b15 _ (by omega) (by omega) (by omega) (by simp only [List.length_cons]; omega) hc2 ⟨upd_eq _ _ _, sg_upd (Nat.le_refl _) f3⟩ ?_ ho4 f2
        rw [List.count_cons_of_ne (by omega), y_fl_cnt, ho]
      have h260 : y_op c n p = false → ms_sp n sl S b a12 a13 A14 A15 (if 0 < op then none else some (g_s c n p, (y_fl false σ l).2, m)) (fn_Md_sum_260 N (fn_Md_sum_11 N d) (Int32.ofNat op) (Int32.ofInt 0) (qs S (g_s c n p) (Int32.ofInt 0) b m σ.length a12 a13 a14 a15 a16)) := by
        intro _
        unfold fn_Md_sum_260 fn_Md_sum_262
        obtain ⟨d', rfl⟩ : ∃ d', d = d' + 1 := ⟨d - 1, by omega⟩
        exact m_end k hN (by omega) hs.2 (by omega) hc hr kc
      unfold fn_Md_sum_195
      rw [n_c43, n_c45, n_c47, n_c42]
      by_cases g1 : g_h c n p = 43
      · have hop : y_op c n p = true := by unfold y_op; rw [g1]; rfl
        rw [if_pos (n_eqT g1), if_pos hop]
        exact h230 hop (by omega)
      · rw [if_neg (n_eqF g1 (by omega) (by omega))]
        by_cases g2 : g_h c n p = 45
        · have hop : y_op c n p = true := by unfold y_op; rw [g2]; rfl
          rw [if_pos (n_eqT g2), if_pos hop]
          exact h230 hop (by omega)
        · rw [if_neg (n_eqF g2 (by omega) (by omega))]
          by_cases g3 : g_h c n p = 47
          · have hop : y_op c n p = true := by unfold y_op; rw [g3]; rfl
            rw [if_pos (n_eqT g3), if_pos hop]
            exact h230 hop (by omega)
          · rw [if_neg (n_eqF g3 (by omega) (by omega))]
            by_cases g4 : g_h c n p = 42
            · rw [if_pos (n_eqT g4), m_lastStar k hN hp g4, Option.bind_some]
              dsimp only
              by_cases g5 : g_ls c n p = true
              · have hop : y_op c n p = false := by unfold y_op; rw [g4, g5]; rfl
                rw [if_pos g5, if_neg n_ne10, hop, if_neg (by decide)]
                exact h260 hop
              · have hop : y_op c n p = true := by unfold y_op; rw [g4]; simp [g5]
                rw [if_neg g5, if_pos n_e00, if_pos hop]
                exact h230 hop (by omega)
            · have hop : y_op c n p = false := by unfold y_op; simp [g1, g2, g3, g4]
              rw [if_neg (n_eqF g4 (by omega) (by omega)), hop, if_neg (by decide)]
              exact h260 hop
    by_cases e1 : g_h c n p = 41
    · rw [if_pos (n_eqT e1)]
      by_cases e2 : 0 < op
      · have hlt := g_h_lt (c := c) (n := n) (p := p) (by omega)
        rw [if_neg (show ¬ Int32.ofNat op ≤ 0 from n_leF (b := 0) e2 (by omega)), if_pos ⟨e1, e2⟩]
        obtain ⟨b14, b15, f1, f2, f3⟩ := m_flush (N := N) (p := g_s c n p) (w := Int32.ofInt 0) (b := b) (o := m) (a12 := a12) (a13 := a13) k hN false (show σ.length + l.length ≤ 48 by omega) hc hr kc
        rw [if_neg (by decide)] at f1
        rw [f1, Option.bind_some]
        obtain ⟨τ, hτ⟩ := y_fl_top σ l (by omega)
        have hlen := y_fl_len false σ l
        have hcnt := y_fl_cnt false σ l
        rw [hτ] at hlen hcnt f3
        simp only [List.length_cons] at hlen
        rw [List.count_cons_self] at hcnt
        unfold fn_Md_sum_262
        dsimp only
        rw [hτ, qs_g31, List.length_cons, n_1, n_sub (by omega), Nat.add_sub_cancel, qs_u31, qs_g16, n_add, qs_u16, qs_pr]
        have eop : Int32.ofNat op + Int32.ofInt (-1) = Int32.ofNat (op - 1) := by
          show Int32.ofInt (op : Int) + Int32.ofInt (-1) = Int32.ofInt ((op - 1 : Nat) : Int)
          rw [← Int32.ofInt_add]
          congr 1
          omega
        rw [eop, List.tail_cons]
        exact m_sum11 k hN e d (op - 1) false τ (g_s c n p + 1) _ m b14 b15 a16 (by omega) (by omega) (by omega) (by omega) (fun x hx => hc x (y_fl_mem false σ l x (by rw [hτ]; exact List.mem_cons_of_mem _ hx))) f3.2 (by omega) (by omega) f2
      · rw [if_pos (show Int32.ofNat op ≤ 0 from n_leT (b := 0) (by omega) (by omega)), if_neg (fun q => e2 q.2)]
        exact h195 (fun q => e2 q.2)
    · rw [if_neg (n_eqF e1 (by omega) (by omega)), if_neg (fun q => e1 q.1)]
      exact h195 (fun q => e1 q.1)
/-- the reference's sum says what the grammar says -/
theorem m_sum (k : q_ok c n t sl S) (hN : 60 ≤ N) {p s : Nat} {l : List Int} {m : Int32} {a14 a15 a16 : Nat → Int32} (hp : p ≤ n) (hl : l.length ≤ p) (kc : cd sl A14 A15 a14 a15 l) :
    ms_sp n sl S b a12 a13 A14 A15 (g_sum c n 6 0 p l m) (fn_Md_sum N (qs S p (Int32.ofInt 0) b m s a12 a13 a14 a15 a16)) := by
  have kn := k.2.2.2.1
  have key := m_sum11 (N := N) (b := b) (a12 := a12) (a13 := a13) (A14 := A14) (A15 := A15) k hN (n + 1 - p) N 0 true [] p l m a14 a15 a16 (by omega) (by omega) hp (by simpa using hl) (fun x hx => by cases hx) trivial rfl (by omega) kc
  have e : y_run c n (n + 1 - p) 0 true [] p l m = g_sum c n 6 0 p l m := y_top kn hp
  rw [e] at key
  unfold fn_Md_sum fn_Md_sum_0
  rw [n_0, qs_s31]
  exact key
end MSU
