/-! ### The line's methods -/
theorem g_sk_le (c : Nat → Nat) : ∀ d p, p ≤ g_sk c d p ∧ g_sk c d p ≤ p + d
  | 0, p => ⟨Nat.le_refl _, Nat.le_refl _⟩
  | d + 1, p => by
    unfold g_sk
    have := g_sk_le c d (p + 1)
    split <;> omega
theorem g_s_le {c : Nat → Nat} {n p : Nat} (h : p ≤ n) : p ≤ g_s c n p ∧ g_s c n p ≤ n := by
  have := g_sk_le c (n - p) p
  unfold g_s
  omega
theorem g_sk_stop (c : Nat → Nat) : ∀ d p, g_sk c d p = p + d ∨ c (g_sk c d p) ≠ 32
  | 0, p => Or.inl rfl
  | d + 1, p => by
    unfold g_sk
    split
    · rcases g_sk_stop c d (p + 1) with e | e
      · left; omega
      · exact Or.inr e
    · next e => exact Or.inr e
theorem g_s_step {c : Nat → Nat} {n p : Nat} (h : p < n) (e : c p = 32) : g_s c n p = g_s c n (p + 1) := by
  unfold g_s
  rw [show n - p = (n - (p + 1)) + 1 by omega]
  exact if_pos e
theorem g_s_here {c : Nat → Nat} {n p : Nat} (h : p < n) (e : c p ≠ 32) : g_s c n p = p := by
  unfold g_s
  rw [show n - p = (n - (p + 1)) + 1 by omega]
  exact if_neg e
theorem g_s_end {c : Nat → Nat} {n p : Nat} (h : n ≤ p) : g_s c n p = p := by
  unfold g_s
  rw [show n - p = 0 by omega]
  rfl
theorem g_s_s {c : Nat → Nat} {n p : Nat} (h : p ≤ n) : g_s c n (g_s c n p) = g_s c n p := by
  have h1 := g_s_le (c := c) h
  rcases Nat.lt_or_ge (g_s c n p) n with h2 | h2
  · refine g_s_here h2 ?_
    have := g_sk_stop c (n - p) p
    unfold g_s at h2 ⊢
    rcases this with e | e
    · omega
    · exact e
  · exact g_s_end h2
theorem g_h_s {c : Nat → Nat} {n p : Nat} (h : p ≤ n) : g_h c n (g_s c n p) = g_h c n p := by
  unfold g_h; rw [g_s_s h]
theorem g_h_lt {c : Nat → Nat} {n p : Nat} (h : g_h c n p ≠ 0) : g_s c n p < n := by
  unfold g_h g_c at h
  split at h
  · assumption
  · exact absurd rfl h
theorem n_ch {x : Nat} (h : x ≤ 126) : md_ch (Int32.ofNat x) = true := by
  have : ∀ x : Fin 127, md_ch (Int32.ofNat x.val) = true := by decide +kernel
  exact this ⟨x, by omega⟩
section LN
variable {N : Nat} {C : Nat × Nat} {h : ag_H} {n p k : Nat} {nv bv : Int32} {st : Nat → Int32} {c : Nat → Nat} {f : Nat → Int32}
theorem c_sign5 (o : rs_ok c f n h) : ∀ (d q : Nat), n < q + d → q ≤ n → fn_Ln_sign_5 N C 3 d (Int32.ofNat q) (rs h n p k nv bv st) = some (Int32.ofNat (g_h c n q), rs h n (g_s c n q) k nv bv st)
  | 0, q, hd, hq => absurd hd (by omega)
  | d + 1, q, hd, hq => by
    have on := o.2.1
    rw [fe_Ln_sign_5, rs_len o, Option.bind_some]
    rcases Nat.lt_or_ge q n with h2 | h2
    · obtain ⟨hf, hc1, hc2⟩ := o.2.2.2 q h2
      rw [if_neg (n_leF (by omega) (by omega)), rs_txt o, Option.bind_some, rs_chr o, Option.bind_some]
      simp only [n_in (show q < 2147483648 by omega), n_nat (show q < 2147483648 by omega), if_pos (show q < 40 by omega), hf, n_c32, n_eq (show c q < 2147483648 by omega) (show 32 < 2147483648 by omega)]
      by_cases e : c q = 32
      · rw [if_pos e, n_1, n_add, c_sign5 o d (q + 1) (by omega) (by omega)]
        unfold g_h
        rw [← g_s_step h2 e]
      · rw [if_neg e, rs_pp o, Option.bind_some, rs_txt o, Option.bind_some, rs_chr o, Option.bind_some]
        simp only [n_in (show q < 2147483648 by omega), n_nat (show q < 2147483648 by omega), if_pos (show q < 40 by omega), hf, n_ch hc2, if_true]
        unfold g_h g_c
        rw [g_s_here h2 e, if_pos h2]
    · rw [if_pos (n_leT (by omega) (by omega)), Option.bind_some, rs_pp o, Option.bind_some, if_pos (by decide)]
      have : q = n := by omega
      subst this
      unfold g_h g_c
      rw [g_s_end (Nat.le_refl _), if_neg (Nat.lt_irrefl _)]
      rfl
theorem c_sign (o : rs_ok c f n h) (hN : 42 ≤ N) (hp : p ≤ n) : fn_Ln_sign N C 3 (rs h n p k nv bv st) = some (Int32.ofNat (g_h c n p), rs h n (g_s c n p) k nv bv st) := by
  have on := o.2.1
  unfold fn_Ln_sign fn_Ln_sign_0
  rw [rs_pos o, Option.bind_some]
  exact c_sign5 o N p (by omega) hp
theorem g_h_le (o : rs_ok c f n h) (p : Nat) : g_h c n p ≤ 126 := by
  unfold g_h g_c
  split
  · next h2 => exact (o.2.2.2 _ h2).2.2
  · omega
theorem c_takes (o : rs_ok c f n h) (hN : 42 ≤ N) (hp : p ≤ n) {x : Nat} (hx : x < 2147483648) : fn_Ln_takes N C 3 (Int32.ofNat x) (rs h n p k nv bv st) = match g_t c n p x with
    | some q => some (Int32.ofInt 1, rs h n q k nv bv st)
    | none => some (Int32.ofInt 0, rs h n (g_s c n p) k nv bv st) := by
  have := g_h_le o p
  unfold fn_Ln_takes fn_Ln_takes_0 g_t
  rw [rs_rc3 o, Option.bind_some, c_sign o hN hp, Option.bind_some]
  show (if Int32.ofNat (g_h c n p) = Int32.ofNat x then _ else _) = _
  simp only [n_eq (show g_h c n p < 2147483648 by omega) hx]
  by_cases e : g_h c n p = x
  · rw [if_pos e, rs_pos o, Option.bind_some, n_1, n_add, rs_pp o, Option.bind_some, if_pos (by decide), if_pos e]
  · rw [if_neg e, if_pos (by decide), if_neg e]
end LN
