/-! ### Digits and terms -/
theorem g_dc_le (c : Nat → Nat) (n : Nat) : ∀ d p, g_dc c n d p ≤ d ∧ (p ≤ n → p + g_dc c n d p ≤ n)
  | 0, p => ⟨Nat.le_refl _, fun h => h⟩
  | d + 1, p => by
    unfold g_dc
    have := g_dc_le c n d (p + 1)
    split
    · next e => exact ⟨by omega, fun h => by have := this.2 (by omega); omega⟩
    · exact ⟨by omega, fun h => h⟩
theorem g_dv_lt (c : Nat → Nat) (n : Nat) : ∀ m d p v, m ≤ g_dc c n d p → g_dv c m p v < (v + 1) * 10 ^ m
  | 0, d, p, v, _ => by simp [g_dv]
  | m + 1, 0, p, v, h => by simp [g_dc] at h
  | m + 1, d + 1, p, v, h => by
    unfold g_dc at h
    split at h
    · next e =>
      have h1 := g_dv_lt c n m d (p + 1) (v * 10 + (c p - 48)) (by omega)
      unfold g_dv
      refine Nat.lt_of_lt_of_le h1 ?_
      rw [Nat.pow_succ, Nat.mul_comm (10 ^ m) 10, ← Nat.mul_assoc]
      exact Nat.mul_le_mul_right _ (by omega)
    · omega
theorem g_d_ok {c : Nat → Nat} {n p v q : Nat} (hp : p ≤ n) (e : g_d c n p = some (v, q)) : v < 10000 ∧ p < q ∧ q ≤ n := by
  unfold g_d at e
  split at e
  · cases e
  · next h =>
    cases e
    have h1 := g_dc_le c n 5 p
    have h2 := g_dv_lt c n (g_dc c n 5 p) 5 p 0 (Nat.le_refl _)
    have h3 : g_dc c n 5 p ≤ 4 := by omega
    have h4 : 10 ^ (g_dc c n 5 p) ≤ 10 ^ 4 := Nat.pow_le_pow_right (by omega) h3
    refine ⟨by omega, by omega, h1.2 hp⟩
theorem g_t_ok {c : Nat → Nat} {n p x q : Nat} (hp : p ≤ n) (hx : x ≠ 0) (e : g_t c n p x = some q) : p < q ∧ q ≤ n := by
  unfold g_t at e
  split at e
  · next h =>
    cases e
    have h1 := g_h_lt (c := c) (n := n) (p := p) (by omega)
    have := (g_s_le (c := c) hp).1
    omega
  · cases e
theorem g_tm_ok {c : Nat → Nat} {n p q : Nat} {t : Int} (hp : p ≤ n) (e : g_tm c n p = some (t, q)) : ((-9999 ≤ t ∧ t ≤ 9999) ∨ (1048576 ≤ t ∧ t ≤ 1048583)) ∧ p < q ∧ q ≤ n := by
  unfold g_tm at e
  have hs := g_s_le (c := c) hp
  split at e
  · next h =>
    cases e
    have h1 := g_h_lt (c := c) (n := n) (p := p) (by omega)
    exact ⟨by omega, by omega, by omega⟩
  · split at e
    · next h =>
      have h1 := g_h_lt (c := c) (n := n) (p := p) (by omega)
      obtain ⟨r, er, e⟩ := md_bd e
      cases e
      have := g_d_ok (p := g_s c n p + 1) (by omega) (show g_d c n (g_s c n p + 1) = some (r.1, r.2) from er)
      exact ⟨by omega, by omega, by omega⟩
    · obtain ⟨r, er, e⟩ := md_bd e
      cases e
      have := g_d_ok (p := g_s c n p) (by omega) (show g_d c n (g_s c n p) = some (r.1, r.2) from er)
      exact ⟨by omega, by omega, by omega⟩
section DG
variable {N : Nat} {C : Nat × Nat} {h : ag_H} {n p k : Nat} {nv bv : Int32} {st : Nat → Int32} {c : Nat → Nat} {f : Nat → Int32}
theorem c_dig76 (o : rs_ok c f n h) {s j v : Nat} (hs : s + j ≤ n) : fn_Ln_digits_76 N C 3 (Int32.ofNat v) (Int32.ofNat s) (rs h n (s + j) k nv bv st) = some (if j = 0 then Int32.ofInt (-1) else Int32.ofNat v, rs h n (s + j) k nv bv st) := by
  have on := o.2.1
  unfold fn_Ln_digits_76 fn_Ln_digits_89
  rw [rs_pos o, Option.bind_some]
  simp (disch := omega) only [n_le]
  by_cases e : j = 0
  · rw [if_pos (by omega), if_pos e]
  · rw [if_neg (by omega), if_neg e]
theorem c_dig9 (o : rs_ok c f n h) : ∀ (d s j v : Nat), n < s + j + d → s + j ≤ n → j ≤ 4 →
    (¬ (j + g_dc c n (5 - j) (s + j) = 0 ∨ j + g_dc c n (5 - j) (s + j) = 5) → fn_Ln_digits_9 N C 3 d (Int32.ofNat v) (Int32.ofNat s) (Int32.ofNat (s + j)) (rs h n (s + j) k nv bv st) = some (Int32.ofNat (g_dv c (g_dc c n (5 - j) (s + j)) (s + j) v), rs h n (s + j + g_dc c n (5 - j) (s + j)) k nv bv st)) ∧
    ((j + g_dc c n (5 - j) (s + j) = 0 ∨ j + g_dc c n (5 - j) (s + j) = 5) → ∃ q, q ≤ n ∧ fn_Ln_digits_9 N C 3 d (Int32.ofNat v) (Int32.ofNat s) (Int32.ofNat (s + j)) (rs h n (s + j) k nv bv st) = some (Int32.ofInt (-1), rs h n q k nv bv st))
  | 0, s, j, v, hd, hq, hj => absurd hd (by omega)
  | d + 1, s, j, v, hd, hq, hj => by
    have on := o.2.1
    rw [fe_Ln_digits_9, rs_len o, Option.bind_some, show 5 - j = (4 - j) + 1 by omega]
    unfold g_dc
    have stop : ∀ X : Option (Int32 × ag_H), X = fn_Ln_digits_76 N C 3 (Int32.ofNat v) (Int32.ofNat s) (rs h n (s + j) k nv bv st) →
      (¬ (j + 0 = 0 ∨ j + 0 = 5) → X = some (Int32.ofNat (g_dv c 0 (s + j) v), rs h n (s + j + 0) k nv bv st)) ∧
      ((j + 0 = 0 ∨ j + 0 = 5) → ∃ q, q ≤ n ∧ X = some (Int32.ofInt (-1), rs h n q k nv bv st)) := by
      intro X hX
      rw [hX, c_dig76 o hq]
      refine ⟨fun e => ?_, fun e => ⟨s + j, hq, ?_⟩⟩
      · rw [if_neg (by omega)]; rfl
      · rw [if_pos (by omega)]
    rcases Nat.lt_or_ge (s + j) n with h2 | h2
    · obtain ⟨hf, hc1, hc2⟩ := o.2.2.2 _ h2
      rw [if_neg (n_leF (by omega) (by omega)), rs_txt o, Option.bind_some, rs_chr o, Option.bind_some]
      simp only [n_in (show s + j < 2147483648 by omega), n_nat (show s + j < 2147483648 by omega), if_pos (show s + j < 40 by omega), hf, n_c48, n_c57, n_c10, n_lt (show c (s + j) < 2147483648 by omega) (show 48 < 2147483648 by omega)]
      by_cases e1 : c (s + j) < 48
      · rw [if_neg (by omega)]
        exact stop _ (if_pos e1)
      · simp only [if_neg e1, rs_txt o, Option.bind_some, rs_chr o, n_in (show s + j < 2147483648 by omega), n_nat (show s + j < 2147483648 by omega), if_pos (show s + j < 40 by omega), hf, n_lt (show 57 < 2147483648 by omega) (show c (s + j) < 2147483648 by omega)]
        by_cases e2 : 57 < c (s + j)
        · rw [if_neg (by omega)]
          exact stop _ (if_pos e2)
        · rw [if_neg e2, if_pos (by omega), n_sub (by omega), n_4, show s + j - s = j by omega]
          simp (disch := omega) only [n_lt]
          by_cases e3 : j < 4
          · simp only [if_pos e3, rs_txt o, Option.bind_some, rs_chr o, n_in (show s + j < 2147483648 by omega), n_nat (show s + j < 2147483648 by omega), if_pos (show s + j < 40 by omega), hf]
            rw [n_1, n_add, rs_pp o, Option.bind_some, n_mul, n_sub (show 48 ≤ c (s + j) by omega), n_add]
            have ih := c_dig9 o d s (j + 1) (v * 10 + (c (s + j) - 48)) (by omega) (by omega) (by omega)
            rw [show 5 - (j + 1) = 4 - j by omega, show s + (j + 1) = s + j + 1 by omega] at ih
            refine ⟨fun e => ?_, fun e => ?_⟩
            · rw [ih.1 (by omega), show s + j + 1 + g_dc c n (4 - j) (s + j + 1) = s + j + (g_dc c n (4 - j) (s + j + 1) + 1) by omega]
              rfl
            · exact ih.2 (by omega)
          · rw [if_neg e3]
            have e4 : j = 4 := by omega
            subst e4
            refine ⟨fun e => absurd ?_ e, fun e => ⟨_, hq, rfl⟩⟩
            exact Or.inr rfl
    · rw [if_neg (show ¬ (s + j < n ∧ 48 ≤ c (s + j) ∧ c (s + j) ≤ 57) by omega)]
      exact stop _ (if_pos (n_leT (by omega) (by omega)))
theorem c_digits (o : rs_ok c f n h) (hN : 42 ≤ N) (hp : p ≤ n) : match g_d c n p with
    | some r => fn_Ln_digits N C 3 (rs h n p k nv bv st) = some (Int32.ofNat r.1, rs h n r.2 k nv bv st)
    | none => ∃ q, q ≤ n ∧ fn_Ln_digits N C 3 (rs h n p k nv bv st) = some (Int32.ofInt (-1), rs h n q k nv bv st) := by
  have on := o.2.1
  have key := c_dig9 (N := N) (C := C) (k := k) (nv := nv) (bv := bv) (st := st) o N p 0 0 (by omega) (by omega) (by omega)
  have e0 : fn_Ln_digits N C 3 (rs h n p k nv bv st) = fn_Ln_digits_9 N C 3 N (Int32.ofNat 0) (Int32.ofNat p) (Int32.ofNat (p + 0)) (rs h n (p + 0) k nv bv st) := by
    unfold fn_Ln_digits fn_Ln_digits_0
    rw [rs_pos o, Option.bind_some]; rfl
  rw [e0]
  unfold g_d
  simp only [Nat.zero_add, Nat.add_zero, Nat.sub_zero] at key ⊢
  by_cases e : g_dc c n 5 p = 0 ∨ g_dc c n 5 p = 5
  · rw [if_pos e]; exact key.2 e
  · rw [if_neg e]; exact key.1 e
theorem c_isVar (x : Nat) (hx : x ≤ 126) : fn_Rd_isVariable N C (Int32.ofNat x) h = some (if 65 ≤ x ∧ x ≤ 72 then Int32.ofInt 1 else Int32.ofInt 0, h) := by
  unfold fn_Rd_isVariable fn_Rd_isVariable_0 fn_Rd_isVariable_16 fn_Rd_isVariable_17
  rw [n_c65, n_c73]
  simp (disch := omega) only [n_lt, n_le]
  by_cases e1 : x < 65
  · rw [if_pos e1, if_pos (by decide), if_neg (by omega)]
  · rw [if_neg e1]
    by_cases e2 : 73 ≤ x
    · rw [if_pos e2, if_pos (by decide), if_neg (by omega)]
    · rw [if_neg e2, if_pos (by decide), if_pos (by omega)]
theorem c_isName (x : Nat) (hx : x ≤ 126) : fn_Rd_isName N C (Int32.ofNat x) h = some (if 97 ≤ x ∧ x ≤ 122 then Int32.ofInt 1 else Int32.ofInt 0, h) := by
  unfold fn_Rd_isName fn_Rd_isName_0 fn_Rd_isName_16 fn_Rd_isName_17
  rw [n_c97, n_c122]
  simp (disch := omega) only [n_lt]
  by_cases e1 : x < 97
  · rw [if_pos e1, if_pos (by decide), if_neg (by omega)]
  · rw [if_neg e1]
    by_cases e2 : 122 < x
    · rw [if_pos e2, if_pos (by decide), if_neg (by omega)]
    · rw [if_neg e2, if_pos (by decide), if_pos (by omega)]
theorem n_ne10 : ¬ Int32.ofInt 1 = 0 := by decide
theorem n_e00 : Int32.ofInt 0 = 0 := rfl
theorem n_ofInt_nat (a : Nat) : Int32.ofInt (a : Int) = Int32.ofNat a := rfl
theorem c_term (o : rs_ok c f n h) (hN : 42 ≤ N) (hp : p ≤ n) : match g_tm c n p with
    | some r => fn_Rd_readTerm N C (some 3) (rs h n p k nv bv st) = some (Int32.ofInt r.1, rs h n r.2 k nv bv st)
    | none => ∃ q, q ≤ n ∧ fn_Rd_readTerm N C (some 3) (rs h n p k nv bv st) = some (-1048576, rs h n q k nv bv st) := by
  have hs := g_s_le (c := c) hp
  have hh := g_h_le o p
  unfold fn_Rd_readTerm fn_Rd_readTerm_0 fn_Rd_readTerm_59
  rw [rs_rc3 o, Option.bind_some, c_sign o hN hp, Option.bind_some]
  simp only [c_isVar _ hh, Option.bind_some]
  unfold g_tm
  by_cases e1 : 65 ≤ g_h c n p ∧ g_h c n p ≤ 72
  · simp only [if_pos e1, if_neg n_ne10]
    rw [rs_pos o, Option.bind_some, n_1, n_add, rs_pp o, Option.bind_some, n_c65, n_sub e1.1, Int32.ofInt_add]
    rfl
  · simp only [if_neg e1, n_e00, if_true]
    rw [rs_rc3 o, Option.bind_some, n_c45, c_takes o hN hs.2 (by omega)]
    unfold g_t
    rw [g_h_s hp, g_s_s hp]
    by_cases e2 : g_h c n p = 45
    · simp only [if_pos e2, Option.bind_some]
      have hlt := g_h_lt (c := c) (n := n) (p := p) (by omega)
      have key := c_digits (C := C) (k := k) (nv := nv) (bv := bv) (st := st) o hN (show g_s c n p + 1 ≤ n by omega)
      rw [rs_rc3 o, Option.bind_some]
      cases hd : g_d c n (g_s c n p + 1) with
      | none =>
        rw [hd] at key
        obtain ⟨q, hq, key⟩ := key
        simp only [Option.bind_none, key, Option.bind_some]
        exact ⟨q, hq, if_neg (by decide)⟩
      | some r =>
        rw [hd] at key
        have hv := g_d_ok (show g_s c n p + 1 ≤ n by omega) (show _ = some (r.1, r.2) from hd)
        simp only at key
        simp only [key, Option.bind_some]
        rw [n_z, if_pos (n_leT (by omega) (by omega)), if_neg (by decide), Int32.ofInt_neg]
        rfl
    · simp only [if_neg e2, Option.bind_some]
      have key := c_digits (C := C) (k := k) (nv := nv) (bv := bv) (st := st) o hN hs.2
      rw [rs_rc3 o, Option.bind_some]
      cases hd : g_d c n (g_s c n p) with
      | none =>
        rw [hd] at key
        obtain ⟨q, hq, key⟩ := key
        simp only [Option.bind_none, key, Option.bind_some]
        exact ⟨q, hq, if_neg (by decide)⟩
      | some r =>
        rw [hd] at key
        have hv := g_d_ok hs.2 (show _ = some (r.1, r.2) from hd)
        simp only at key
        simp only [key, Option.bind_some]
        rw [n_z, if_pos (n_leT (by omega) (by omega)), if_pos (by decide)]
        rfl
end DG
