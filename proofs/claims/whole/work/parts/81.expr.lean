/-! ### Factors, products, sums -/
def st_rep (st : Nat → Int32) (l : List Int) : Prop := ∀ i x, l[i]? = some x → st i = Int32.ofInt x
theorem st_app {st : Nat → Int32} {l : List Int} (r : st_rep st l) (x : Int) : st_rep (upd st l.length (Int32.ofInt x)) (l ++ [x]) := by
  intro i y e
  unfold upd
  by_cases h : i = l.length
  · subst h
    rw [List.getElem?_append_right (Nat.le_refl _), Nat.sub_self] at e
    cases e
    simp
  · have hlt : i < l.length := by
      have h1 := (List.getElem?_eq_some_iff.mp e).1
      rw [List.length_append] at h1
      simp only [List.length_cons, List.length_nil] at h1
      omega
    rw [List.getElem?_append_left hlt] at e
    simp [h, r i y e]
def xs_sp (n : Nat) (h : ag_H) (bv : Int32) (R : Option g_E) (F : Option (Int32 × ag_H)) : Prop := match R with
  | some r => ∃ st', F = some (Int32.ofInt 1, rs h n r.1 r.2.1.length r.2.2 bv st') ∧ st_rep st' r.2.1
  | none => ∃ p' k' nv' st', p' ≤ n ∧ F = some (Int32.ofInt 0, rs h n p' k' nv' bv st')
def g_bnd (n : Nat) (K : Nat → List Int → Int32 → Option g_E) : Prop := ∀ p l m r, p ≤ n → K p l m = some r → p < r.1 ∧ r.1 ≤ n ∧ r.2.1.length + p ≤ l.length + r.1
theorem g_fac_bnd {K : Nat → List Int → Int32 → Option g_E} {c : Nat → Nat} {n op : Nat} (hK : g_bnd n K) : g_bnd n (g_fac K c n op) := by
  intro p l m r hp e
  have hs := g_s_le (c := c) hp
  unfold g_fac at e
  split at e
  · next h =>
    have hlt := g_h_lt (c := c) (n := n) (p := p) (by omega)
    split at e
    · cases e
    · obtain ⟨r1, e1, e⟩ := md_bd e
      obtain ⟨p2, e2, e⟩ := md_bd e
      have h1 := hK _ _ _ _ (show g_s c n p + 1 ≤ n by omega) e1
      have h2 := g_t_ok h1.2.1 (by decide) e2
      cases e
      dsimp only
      omega
  · split at e
    · next h =>
      have hlt := g_h_lt (c := c) (n := n) (p := p) (by omega)
      cases e
      dsimp only
      rw [List.length_append]
      simp only [List.length_cons, List.length_nil]
      omega
    · obtain ⟨r1, e1, e⟩ := md_bd e
      have h1 := g_d_ok hs.2 (show _ = some (r1.1, r1.2) from e1)
      cases e
      dsimp only
      rw [List.length_append]
      simp only [List.length_cons, List.length_nil]
      omega
theorem g_prl_bnd {K : Nat → List Int → Int32 → Option g_E} {c : Nat → Nat} {n op : Nat} (hK : g_bnd n K) : ∀ (d p : Nat) (l : List Int) (m : Int32) (r : g_E), p ≤ n → g_prl K c n op d p l m = some r → p ≤ r.1 ∧ r.1 ≤ n ∧ r.2.1.length + p ≤ l.length + r.1
  | 0, p, l, m, r, hp, e => by cases e; exact ⟨Nat.le_refl _, hp, Nat.le_refl _⟩
  | d + 1, p, l, m, r, hp, e => by
    have hs := g_s_le (c := c) hp
    unfold g_prl at e
    split at e
    · cases e; exact ⟨hs.1, hs.2, by dsimp only; omega⟩
    · split at e
      · next p1 e1 =>
        have h1 := g_t_ok hp (by decide) e1
        obtain ⟨r1, e2, e⟩ := md_bd e
        have h2 := g_fac_bnd hK _ _ _ _ h1.2 e2
        have h3 := g_prl_bnd hK d _ _ _ _ h2.2.1 e
        rw [List.length_append] at h3
        simp only [List.length_cons, List.length_nil] at h3
        omega
      · split at e
        · next p1 e1 =>
          have h1 := g_t_ok hp (by decide) e1
          obtain ⟨r1, e2, e⟩ := md_bd e
          have h2 := g_fac_bnd hK _ _ _ _ h1.2 e2
          have h3 := g_prl_bnd hK d _ _ _ _ h2.2.1 e
          rw [List.length_append] at h3
          simp only [List.length_cons, List.length_nil] at h3
          omega
        · cases e; exact ⟨hs.1, hs.2, by dsimp only; omega⟩
theorem g_pro_bnd {K : Nat → List Int → Int32 → Option g_E} {c : Nat → Nat} {n op : Nat} (hK : g_bnd n K) : g_bnd n (g_pro K c n op) := by
  intro p l m r hp e
  unfold g_pro at e
  obtain ⟨r1, e1, e⟩ := md_bd e
  have h1 := g_fac_bnd hK _ _ _ _ hp e1
  have h2 := g_prl_bnd hK _ _ _ _ _ h1.2.1 e
  omega
theorem g_sml_bnd {K : Nat → List Int → Int32 → Option g_E} {c : Nat → Nat} {n op : Nat} (hK : g_bnd n K) : ∀ (d p : Nat) (l : List Int) (m : Int32) (r : g_E), p ≤ n → g_sml K c n op d p l m = some r → p ≤ r.1 ∧ r.1 ≤ n ∧ r.2.1.length + p ≤ l.length + r.1
  | 0, p, l, m, r, hp, e => by cases e; exact ⟨Nat.le_refl _, hp, Nat.le_refl _⟩
  | d + 1, p, l, m, r, hp, e => by
    have hs := g_s_le (c := c) hp
    unfold g_sml at e
    split at e
    · next p1 e1 =>
      have h1 := g_t_ok hp (by decide) e1
      obtain ⟨r1, e2, e⟩ := md_bd e
      have h2 := g_pro_bnd hK _ _ _ _ h1.2 e2
      have h3 := g_sml_bnd hK d _ _ _ _ h2.2.1 e
      rw [List.length_append] at h3
      simp only [List.length_cons, List.length_nil] at h3
      omega
    · split at e
      · next p1 e1 =>
        have h1 := g_t_ok hp (by decide) e1
        obtain ⟨r1, e2, e⟩ := md_bd e
        have h2 := g_pro_bnd hK _ _ _ _ h1.2 e2
        have h3 := g_sml_bnd hK d _ _ _ _ h2.2.1 e
        rw [List.length_append] at h3
        simp only [List.length_cons, List.length_nil] at h3
        omega
      · cases e; exact ⟨hs.1, hs.2, by dsimp only; omega⟩
theorem g_sm_bnd {K : Nat → List Int → Int32 → Option g_E} {c : Nat → Nat} {n op : Nat} (hK : g_bnd n K) : g_bnd n (g_sm K c n op) := by
  intro p l m r hp e
  unfold g_sm at e
  obtain ⟨r1, e1, e⟩ := md_bd e
  have h1 := g_pro_bnd hK _ _ _ _ hp e1
  have h2 := g_sml_bnd hK _ _ _ _ _ h1.2.1 e
  omega
theorem g_sum_bnd {c : Nat → Nat} {n : Nat} : ∀ d op, g_bnd n (g_sum c n d op)
  | 0, op => fun p l m r hp e => by cases e
  | d + 1, op => fun p l m r hp e => g_sm_bnd (g_sum_bnd d (op + 1)) p l m r hp e
section EX
variable {N : Nat} {C : Nat × Nat} {h : ag_H} {n p k : Nat} {nv bv : Int32} {st : Nat → Int32} {c : Nat → Nat} {f : Nat → Int32}
theorem c_addStep (o : rs_ok c f n h) (hk : k < 40) (x : Int32) : fn_Rd_addStep N C 5 x (rs h n p k nv bv st) = some (Int32.ofInt 1, rs h n p (k + 1) nv bv (upd st k x)) := by
  unfold fn_Rd_addStep fn_Rd_addStep_0
  rw [rs_k o, Option.bind_some, n_c40, if_pos (n_ltT hk (by omega)), rs_stp o, Option.bind_some, Option.bind_some, rs_sts o, Option.bind_some]
  simp only [n_in (show k < 2147483648 by omega), n_nat (show k < 2147483648 by omega), if_pos hk, Option.getD_some]
  rw [rs_up6, rs_k o, Option.bind_some, n_1, n_add, rs_pk o, Option.bind_some, if_pos (by decide)]
theorem c_ls18 (o : rs_ok c f n h) : ∀ (d q : Nat), n < q + d → q ≤ n → fn_Ln_isAtLastStar_18 N C 3 d (Int32.ofNat q) (rs h n p k nv bv st) = some (if g_s c n q = n then Int32.ofInt 1 else Int32.ofInt 0, rs h n p k nv bv st)
  | 0, q, hd, hq => absurd hd (by omega)
  | d + 1, q, hd, hq => by
    have on := o.2.1
    rw [fe_Ln_isAtLastStar_18, rs_len o, Option.bind_some]
    simp (disch := omega) only [n_le]
    rcases Nat.lt_or_ge q n with h2 | h2
    · obtain ⟨hf, hc1, hc2⟩ := o.2.2.2 q h2
      rw [if_neg (by omega), rs_txt o, Option.bind_some, rs_chr o, Option.bind_some]
      simp only [n_in (show q < 2147483648 by omega), n_nat (show q < 2147483648 by omega), if_pos (show q < 40 by omega), hf, n_c32, n_eq (show c q < 2147483648 by omega) (show 32 < 2147483648 by omega)]
      by_cases e : c q = 32
      · rw [if_pos e, n_1, n_add, c_ls18 o d (q + 1) (by omega) (by omega), g_s_step h2 e]; rfl
      · rw [if_neg e, if_pos (by decide), g_s_here h2 e, if_neg (by omega)]
    · rw [if_pos h2, if_pos (by decide), g_s_end h2, if_pos (by omega)]
theorem c_lastStar (o : rs_ok c f n h) (hN : 42 ≤ N) (hp : p ≤ n) : fn_Ln_isAtLastStar N C 3 (rs h n p k nv bv st) = some (if g_ls c n p = true then Int32.ofInt 1 else Int32.ofInt 0, rs h n (g_s c n p) k nv bv st) := by
  have on := o.2.1
  have hh := g_h_le o p
  have hs := g_s_le (c := c) hp
  unfold fn_Ln_isAtLastStar fn_Ln_isAtLastStar_0 g_ls
  rw [rs_rc3 o, Option.bind_some, c_sign o hN hp, Option.bind_some]
  simp only [n_c42, n_eq (show g_h c n p < 2147483648 by omega) (show 42 < 2147483648 by omega)]
  by_cases e : g_h c n p = 42
  · have hlt := g_h_lt (c := c) (n := n) (p := p) (by omega)
    rw [if_pos e, rs_pos o, Option.bind_some, n_1, n_add, c_ls18 o N _ (by omega) (by omega)]
    simp [e]
  · rw [if_neg e, if_pos (by decide)]
    simp [e]
theorem c_fac {K : Nat → List Int → Int32 → Option g_E} {kR : Nat → Option Nat → Int32 → ag_H → Option (Int32 × ag_H)} {op : Nat} (o : rs_ok c f n h) (hN : 42 ≤ N) (ho : op ≤ 4)
    (hB : g_bnd n K) (hK : op < 4 → ∀ q l m st, q ≤ n → l.length ≤ q → st_rep st l → xs_sp n h bv (K q l m) (kR 5 (some 3) (Int32.ofNat (op + 1)) (rs h n q l.length m bv st)))
    {l : List Int} {m : Int32} (hp : p ≤ n) (hl : l.length ≤ p) (hr : st_rep st l) : xs_sp n h bv (g_fac K c n op p l m) (fn_Rd_readFactor N C kR 5 (some 3) (Int32.ofNat op) (rs h n p l.length m bv st)) := by
  have on := o.2.1
  have hh := g_h_le o p
  have hs := g_s_le (c := c) hp
  unfold fn_Rd_readFactor fn_Rd_readFactor_0 g_fac fn_Rd_readFactor_46 fn_Rd_readFactor_128 fn_Rd_readFactor_129
  rw [rs_rc3 o, Option.bind_some, c_sign o hN hp, Option.bind_some]
  simp only [n_c40, n_eq (show g_h c n p < 2147483648 by omega) (show 40 < 2147483648 by omega)]
  by_cases e1 : g_h c n p = 40
  · have hlt := g_h_lt (c := c) (n := n) (p := p) (by omega)
    rw [if_pos e1, if_pos e1, rs_pos o, Option.bind_some, n_1, n_add, rs_pp o, Option.bind_some, n_4]
    simp (disch := omega) only [n_le]
    by_cases e2 : 4 ≤ op
    · rw [if_pos e2, if_pos e2, if_pos (by decide)]
      exact ⟨g_s c n p + 1, _, _, _, by omega, rfl⟩
    · rw [if_neg e2, if_neg e2, rs_rc5 o, Option.bind_some, n_add]
      have k1 := hK (by omega) (g_s c n p + 1) l m st (by omega) (by omega) hr
      cases e3 : K (g_s c n p + 1) l m with
      | none =>
        rw [e3] at k1
        obtain ⟨p', k', nv', st', hp', k1⟩ := k1
        rw [k1, Option.bind_some, Option.bind_none]
        exact ⟨p', k', nv', st', hp', rfl⟩
      | some r =>
        rw [e3] at k1
        obtain ⟨st', k1, hr'⟩ := k1
        have hb := hB _ _ _ _ (show g_s c n p + 1 ≤ n by omega) e3
        have hh2 := g_h_le o r.1
        rw [k1, Option.bind_some, Option.bind_some, if_neg n_ne10]
        rw [rs_rc3 o, Option.bind_some, c_sign o hN hb.2.1, Option.bind_some]
        simp only [n_c41, n_eq (show g_h c n r.1 < 2147483648 by omega) (show 41 < 2147483648 by omega)]
        unfold g_t
        by_cases e4 : g_h c n r.1 = 41
        · rw [if_pos e4, if_pos e4, Option.bind_some, rs_pos o, Option.bind_some, n_add, rs_pp o, Option.bind_some, if_pos (by decide)]
          exact ⟨st', rfl, hr'⟩
        · rw [if_neg e4, if_neg e4, Option.bind_none, if_pos (by decide)]
          exact ⟨_, _, _, _, (g_s_le (c := c) hb.2.1).2, rfl⟩
  · rw [if_neg e1, if_neg e1]
    simp only [c_isVar _ hh, Option.bind_some]
    by_cases e2 : 65 ≤ g_h c n p ∧ g_h c n p ≤ 72
    · have hlt := g_h_lt (c := c) (n := n) (p := p) (by omega)
      simp only [if_pos e2, if_neg n_ne10]
      rw [rs_pos o, Option.bind_some, n_1, n_add, rs_pp o, Option.bind_some, rs_nv o, Option.bind_some, rs_pn o, Option.bind_some, rs_rc5 o, Option.bind_some, c_addStep o (by omega), Option.bind_some]
      simp only [n_c65, n_sub e2.1]
      rw [if_pos n_b1]
      refine ⟨_, ?_, st_app hr _⟩
      rw [List.length_append]
      have hg : g_bit (1048576 + ((g_h c n p - 65 : Nat) : Int)) = Int32.ofNat 1 <<< (Int32.ofNat (g_h c n p - 65) &&& 31) := by
        unfold g_bit
        rw [if_neg (by omega), Int32.ofInt_add]
        show Int32.ofInt 1 <<< (((1048576 : Int32) + Int32.ofNat (g_h c n p - 65) - 1048576) &&& 31) = _
        rw [Int32.add_comm, Int32.add_sub_cancel]
        rfl
      rw [hg, Int32.ofInt_add]
      rfl
    · simp only [if_neg e2, n_e00, if_true]
      rw [rs_rc3 o, Option.bind_some]
      have key := c_digits (C := C) (k := l.length) (nv := m) (bv := bv) (st := st) o hN hs.2
      cases e3 : g_d c n (g_s c n p) with
      | none =>
        rw [e3] at key
        obtain ⟨q, hq, key⟩ := key
        simp only [key, Option.bind_some, if_pos n_m1, if_pos n_b0]
        exact ⟨q, _, _, _, hq, rfl⟩
      | some r =>
        rw [e3] at key
        have hv := g_d_ok hs.2 (show _ = some (r.1, r.2) from e3)
        simp only at key
        simp only [key, Option.bind_some, if_neg (n_nn (show r.1 < 2147483648 by omega)), rs_rc5 o, c_addStep o (show l.length < 40 by omega), if_neg n_ne10, if_pos n_b1]
        refine ⟨_, ?_, st_app hr _⟩
        rw [List.length_append]
        rfl
theorem c_prl {K : Nat → List Int → Int32 → Option g_E} {kR : Nat → Option Nat → Int32 → ag_H → Option (Int32 × ag_H)} {op : Nat} (o : rs_ok c f n h) (hN : 42 ≤ N) (ho : op ≤ 4)
    (hB : g_bnd n K) (hK : op < 4 → ∀ q l m st, q ≤ n → l.length ≤ q → st_rep st l → xs_sp n h bv (K q l m) (kR 5 (some 3) (Int32.ofNat (op + 1)) (rs h n q l.length m bv st))) :
    ∀ (e d i p : Nat) (l : List Int) (m : Int32) (st : Nat → Int32), i + e = 40 → e + 2 ≤ d → p ≤ n → l.length ≤ p → st_rep st l → xs_sp n h bv (g_prl K c n op e p l m) (fn_Rd_readProduct_10 N C kR 5 d (some 3) (Int32.ofNat op) (Int32.ofInt 1) (Int32.ofNat i) (rs h n p l.length m bv st))
  | e, 0, i, p, l, m, st, hi, hd, hp, hl, hr => absurd hd (by omega)
  | 0, d + 1, i, p, l, m, st, hi, hd, hp, hl, hr => by
    rw [fe_Rd_readProduct_10, if_neg n_ne10, n_c40, if_pos (n_leT (by omega) (by omega))]
    unfold fn_Rd_readProduct_98
    rw [if_pos (by decide)]
    exact ⟨st, rfl, hr⟩
  | e + 1, d + 1, i, p, l, m, st, hi, hd, hp, hl, hr => by
    have on := o.2.1
    have hs := g_s_le (c := c) hp
    have step : ∀ (x : Nat), 0 < x → x ≤ 126 → ∀ p1, p < p1 → p1 ≤ n → xs_sp n h bv ((g_fac K c n op p1 l m).bind fun r => g_prl K c n op e r.1 (r.2.1 ++ [-(x : Int)]) r.2.2) (fn_Rd_readProduct_57 N C kR 5 (fn_Rd_readProduct_10 N C kR 5 d) (some 3) (Int32.ofNat op) (Int32.ofInt 1) (Int32.ofNat i) (Int32.ofNat x) (rs h n p1 l.length m bv st)) := by
      intro x hx hx2 p1 h1 h2
      unfold fn_Rd_readProduct_57 fn_Rd_readProduct_90 fn_Rd_readProduct_91
      rw [if_neg (n_ne0 hx (by omega)), rs_rc5 o, Option.bind_some]
      have k1 := c_fac (C := C) (op := op) o hN ho hB hK (m := m) h2 (show l.length ≤ p1 by omega) hr
      cases e1 : g_fac K c n op p1 l m with
      | none =>
        rw [e1] at k1
        obtain ⟨p', k', nv', st', hp', k1⟩ := k1
        simp only [k1, Option.bind_some, Option.bind_none, n_e00, if_true]
        obtain ⟨d', rfl⟩ : ∃ d', d = d' + 1 := ⟨d - 1, by omega⟩
        rw [fe_Rd_readProduct_10, if_pos rfl]
        unfold fn_Rd_readProduct_98
        exact ⟨p', k', nv', st', hp', if_pos (by decide)⟩
      | some r =>
        rw [e1] at k1
        obtain ⟨st', k1, hr'⟩ := k1
        have hb := g_fac_bnd hB _ _ _ _ h2 e1
        simp only [k1, Option.bind_some, if_neg n_ne10, rs_rc5 o, c_addStep o (show r.2.1.length < 40 by omega)]
        rw [n_1, n_add]
        have k2 := c_prl o hN ho hB hK e d (i + 1) r.1 (r.2.1 ++ [-(x : Int)]) r.2.2 (upd st' r.2.1.length (Int32.ofInt (-(x : Int)))) (by omega) (by omega) hb.2.1 (by rw [List.length_append]; simp only [List.length_cons, List.length_nil]; omega) (st_app hr' _)
        rw [List.length_append, Int32.ofInt_neg] at k2
        exact k2
    rw [fe_Rd_readProduct_10, if_neg n_ne10, n_c40, if_neg (n_leF (by omega) (by omega)), rs_rc3 o, Option.bind_some, c_lastStar o hN hp, Option.bind_some]
    unfold g_prl
    by_cases e1 : g_ls c n p = true
    · simp only [if_pos e1, if_neg n_ne10]
      unfold fn_Rd_readProduct_98
      rw [if_pos (by decide)]
      exact ⟨st, rfl, hr⟩
    · simp only [if_neg e1, n_e00, if_true]
      rw [rs_rc3 o, Option.bind_some, n_c42, c_takes o hN hs.2 (by omega)]
      have e42 : ∀ x, g_t c n (g_s c n p) x = g_t c n p x := by
        intro x; unfold g_t; rw [g_h_s hp, g_s_s hp]
      rw [e42]
      cases e2 : g_t c n p 42 with
      | some p1 =>
        have h1 := g_t_ok hp (by decide) e2
        rw [Option.bind_some]
        exact step 42 (by omega) (by omega) p1 h1.1 h1.2
      | none =>
        simp only [Option.bind_some, n_e00, if_true]
        rw [rs_rc3 o, Option.bind_some, n_c47, g_s_s hp, c_takes o hN hs.2 (by omega), e42]
        cases e3 : g_t c n p 47 with
        | some p1 =>
          have h1 := g_t_ok hp (by decide) e3
          rw [Option.bind_some]
          exact step 47 (by omega) (by omega) p1 h1.1 h1.2
        | none =>
          simp only [Option.bind_some, n_e00, if_true]
          unfold fn_Rd_readProduct_57 fn_Rd_readProduct_98
          rw [if_pos rfl, if_pos n_b1, g_s_s hp]
          exact ⟨st, rfl, hr⟩
theorem c_pro {K : Nat → List Int → Int32 → Option g_E} {kR : Nat → Option Nat → Int32 → ag_H → Option (Int32 × ag_H)} {op : Nat} (o : rs_ok c f n h) (hN : 42 ≤ N) (ho : op ≤ 4)
    (hB : g_bnd n K) (hK : op < 4 → ∀ q l m st, q ≤ n → l.length ≤ q → st_rep st l → xs_sp n h bv (K q l m) (kR 5 (some 3) (Int32.ofNat (op + 1)) (rs h n q l.length m bv st)))
    {l : List Int} {m : Int32} (hp : p ≤ n) (hl : l.length ≤ p) (hr : st_rep st l) : xs_sp n h bv (g_pro K c n op p l m) (fn_Rd_readProduct N C kR 5 (some 3) (Int32.ofNat op) (rs h n p l.length m bv st)) := by
  unfold fn_Rd_readProduct fn_Rd_readProduct_0 g_pro
  rw [rs_rc5 o, Option.bind_some]
  have k1 := c_fac (C := C) (op := op) o hN ho hB hK (m := m) hp hl hr
  cases e1 : g_fac K c n op p l m with
  | none =>
    rw [e1] at k1
    obtain ⟨p', k', nv', st', hp', k1⟩ := k1
    simp only [k1, Option.bind_some, Option.bind_none]
    obtain ⟨N', rfl⟩ : ∃ N', N = N' + 1 := ⟨N - 1, by omega⟩
    rw [fe_Rd_readProduct_10, if_pos n_e00]
    unfold fn_Rd_readProduct_98
    exact ⟨p', k', nv', st', hp', if_pos (by decide)⟩
  | some r =>
    rw [e1] at k1
    obtain ⟨st', k1, hr'⟩ := k1
    have hb := g_fac_bnd hB _ _ _ _ hp e1
    rw [k1, Option.bind_some, Option.bind_some]
    exact c_prl o hN ho hB hK 40 N 0 r.1 r.2.1 r.2.2 st' (by omega) (by omega) hb.2.1 (by omega) hr'
theorem c_sml {K : Nat → List Int → Int32 → Option g_E} {kR : Nat → Option Nat → Int32 → ag_H → Option (Int32 × ag_H)} {op : Nat} (o : rs_ok c f n h) (hN : 42 ≤ N) (ho : op ≤ 4)
    (hB : g_bnd n K) (hK : op < 4 → ∀ q l m st, q ≤ n → l.length ≤ q → st_rep st l → xs_sp n h bv (K q l m) (kR 5 (some 3) (Int32.ofNat (op + 1)) (rs h n q l.length m bv st))) :
    ∀ (e d i p : Nat) (l : List Int) (m : Int32) (st : Nat → Int32), i + e = 40 → e + 2 ≤ d → p ≤ n → l.length ≤ p → st_rep st l → xs_sp n h bv (g_sml K c n op e p l m) (fn_Rd_readSum_10 N C kR 5 d (some 3) (Int32.ofNat op) (Int32.ofInt 1) (Int32.ofNat i) (rs h n p l.length m bv st))
  | e, 0, i, p, l, m, st, hi, hd, hp, hl, hr => absurd hd (by omega)
  | 0, d + 1, i, p, l, m, st, hi, hd, hp, hl, hr => by
    rw [fe_Rd_readSum_10, if_neg n_ne10, n_c40, if_pos (n_leT (by omega) (by omega))]
    unfold fn_Rd_readSum_91
    rw [if_pos (by decide)]
    exact ⟨st, rfl, hr⟩
  | e + 1, d + 1, i, p, l, m, st, hi, hd, hp, hl, hr => by
    have on := o.2.1
    have hs := g_s_le (c := c) hp
    have step : ∀ (x : Nat), 0 < x → x ≤ 126 → ∀ p1, p < p1 → p1 ≤ n → xs_sp n h bv ((g_pro K c n op p1 l m).bind fun r => g_sml K c n op e r.1 (r.2.1 ++ [-(x : Int)]) r.2.2) (fn_Rd_readSum_50 N C kR 5 (fn_Rd_readSum_10 N C kR 5 d) (some 3) (Int32.ofNat op) (Int32.ofInt 1) (Int32.ofNat i) (Int32.ofNat x) (rs h n p1 l.length m bv st)) := by
      intro x hx hx2 p1 h1 h2
      unfold fn_Rd_readSum_50 fn_Rd_readSum_83 fn_Rd_readSum_84
      rw [if_neg (n_ne0 hx (by omega)), rs_rc5 o, Option.bind_some]
      have k1 := c_pro (C := C) (op := op) o hN ho hB hK (m := m) h2 (show l.length ≤ p1 by omega) hr
      cases e1 : g_pro K c n op p1 l m with
      | none =>
        rw [e1] at k1
        obtain ⟨p', k', nv', st', hp', k1⟩ := k1
        simp only [k1, Option.bind_some, Option.bind_none, n_e00, if_true]
        obtain ⟨d', rfl⟩ : ∃ d', d = d' + 1 := ⟨d - 1, by omega⟩
        rw [fe_Rd_readSum_10, if_pos rfl]
        unfold fn_Rd_readSum_91
        exact ⟨p', k', nv', st', hp', if_pos (by decide)⟩
      | some r =>
        rw [e1] at k1
        obtain ⟨st', k1, hr'⟩ := k1
        have hb := g_pro_bnd hB _ _ _ _ h2 e1
        simp only [k1, Option.bind_some, if_neg n_ne10, rs_rc5 o, c_addStep o (show r.2.1.length < 40 by omega)]
        rw [n_1, n_add]
        have k2 := c_sml o hN ho hB hK e d (i + 1) r.1 (r.2.1 ++ [-(x : Int)]) r.2.2 (upd st' r.2.1.length (Int32.ofInt (-(x : Int)))) (by omega) (by omega) hb.2.1 (by rw [List.length_append]; simp only [List.length_cons, List.length_nil]; omega) (st_app hr' _)
        rw [List.length_append, Int32.ofInt_neg] at k2
        exact k2
    rw [fe_Rd_readSum_10, if_neg n_ne10, n_c40, if_neg (n_leF (by omega) (by omega)), rs_rc3 o, Option.bind_some]
    unfold g_sml
    rw [n_c43, c_takes o hN hp (by omega)]
    have e42 : ∀ x, g_t c n (g_s c n p) x = g_t c n p x := by
      intro x; unfold g_t; rw [g_h_s hp, g_s_s hp]
    cases e2 : g_t c n p 43 with
    | some p1 =>
      have h1 := g_t_ok hp (by decide) e2
      rw [Option.bind_some]
      exact step 43 (by omega) (by omega) p1 h1.1 h1.2
    | none =>
      simp only [Option.bind_some, n_e00, if_true]
      rw [rs_rc3 o, Option.bind_some, n_c45, c_takes o hN hs.2 (by omega), e42]
      cases e3 : g_t c n p 45 with
      | some p1 =>
        have h1 := g_t_ok hp (by decide) e3
        rw [Option.bind_some]
        exact step 45 (by omega) (by omega) p1 h1.1 h1.2
      | none =>
        simp only [Option.bind_some, n_e00, if_true]
        unfold fn_Rd_readSum_50 fn_Rd_readSum_91
        rw [if_pos rfl, if_pos n_b1, g_s_s hp]
        exact ⟨st, rfl, hr⟩
theorem c_sm {K : Nat → List Int → Int32 → Option g_E} {kR : Nat → Option Nat → Int32 → ag_H → Option (Int32 × ag_H)} {op : Nat} (o : rs_ok c f n h) (hN : 42 ≤ N) (ho : op ≤ 4)
    (hB : g_bnd n K) (hK : op < 4 → ∀ q l m st, q ≤ n → l.length ≤ q → st_rep st l → xs_sp n h bv (K q l m) (kR 5 (some 3) (Int32.ofNat (op + 1)) (rs h n q l.length m bv st)))
    {l : List Int} {m : Int32} (hp : p ≤ n) (hl : l.length ≤ p) (hr : st_rep st l) : xs_sp n h bv (g_sm K c n op p l m) (fn_Rd_readSum N C kR 5 (some 3) (Int32.ofNat op) (rs h n p l.length m bv st)) := by
  unfold fn_Rd_readSum fn_Rd_readSum_0 g_sm
  rw [rs_rc5 o, Option.bind_some]
  have k1 := c_pro (C := C) (op := op) o hN ho hB hK (m := m) hp hl hr
  cases e1 : g_pro K c n op p l m with
  | none =>
    rw [e1] at k1
    obtain ⟨p', k', nv', st', hp', k1⟩ := k1
    simp only [k1, Option.bind_some, Option.bind_none]
    obtain ⟨N', rfl⟩ : ∃ N', N = N' + 1 := ⟨N - 1, by omega⟩
    rw [fe_Rd_readSum_10, if_pos n_e00]
    unfold fn_Rd_readSum_91
    exact ⟨p', k', nv', st', hp', if_pos (by decide)⟩
  | some r =>
    rw [e1] at k1
    obtain ⟨st', k1, hr'⟩ := k1
    have hb := g_pro_bnd hB _ _ _ _ hp e1
    rw [k1, Option.bind_some, Option.bind_some]
    exact c_sml o hN ho hB hK 40 N 0 r.1 r.2.1 r.2.2 st' (by omega) (by omega) hb.2.1 (by omega) hr'
/-- sums within open brackets -/
theorem c_sum (o : rs_ok c f n h) (hN : 42 ≤ N) : ∀ (d op p : Nat) (l : List Int) (m : Int32) (st : Nat → Int32), op + d = 6 → op ≤ 4 → p ≤ n → l.length ≤ p → st_rep st l → xs_sp n h bv (g_sum c n d op p l m) (fn_Rd_readSumR N C d 5 (some 3) (Int32.ofNat op) (rs h n p l.length m bv st))
  | 0, op, p, l, m, st, h1, h2, _, _, _ => absurd h1 (by omega)
  | d + 1, op, p, l, m, st, h1, h2, hp, hl, hr => by
    show xs_sp n h bv (g_sm (g_sum c n d (op + 1)) c n op p l m) (fn_Rd_readSum N C (fn_Rd_readSumR N C d) 5 (some 3) (Int32.ofNat op) (rs h n p l.length m bv st))
    exact c_sm o hN (by omega) (g_sum_bnd _ _) (fun h4 q l m st g1 g2 g3 => c_sum o hN d (op + 1) q l m st (by omega) (by omega) g1 g2 g3) hp hl hr
end EX
