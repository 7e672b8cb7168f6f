/-! ### The reference's texts -/
theorem mL1 : md_len 1 = 3840 := rfl
theorem mL2 : md_len 2 = 96 := rfl
theorem mL3 : md_len 3 = 17 := rfl
theorem mL4 : md_len 4 = 17 := rfl
theorem mL5 : md_len 5 = 340 := rfl
theorem mL6 : md_len 6 = 17 := rfl
theorem mL7 : md_len 7 = 17 := rfl
theorem mL8 : md_len 8 = 17 := rfl
def tx (a1 a2 : Nat → Int32) (t : Nat) (x : g_Cl) : Prop := ∃ (c : Nat → Nat) (n : Nat), n ≤ 40 ∧ a2 t = Int32.ofNat n ∧ (∀ i, i < n → a1 (40 * t + i) = Int32.ofNat (c i) ∧ 32 ≤ c i ∧ c i ≤ 126) ∧ g_rd c n = some x
def cp1 (a1 : Nat → Int32) (t u k : Nat) : Nat → Int32 := fun q => if 40 * u ≤ q ∧ q < 40 * u + k then a1 (40 * t + (q - 40 * u)) else a1 q
theorem cp1_0 (a1 : Nat → Int32) (t u : Nat) : cp1 a1 t u 0 = a1 := by
  funext q
  exact if_neg (by omega)
theorem cp1_s {a1 : Nat → Int32} {t u k : Nat} (hne : t ≠ u) (hk : k < 40) : upd (cp1 a1 t u k) (40 * u + k) (cp1 a1 t u k (40 * t + k)) = cp1 a1 t u (k + 1) := by
  have e0 : cp1 a1 t u k (40 * t + k) = a1 (40 * t + k) := if_neg (by omega)
  rw [e0]
  funext q
  by_cases e : q = 40 * u + k
  · rw [e, upd_eq]
    show _ = if 40 * u ≤ 40 * u + k ∧ 40 * u + k < 40 * u + (k + 1) then a1 (40 * t + (40 * u + k - 40 * u)) else _
    rw [if_pos (by omega)]
    congr 1
    omega
  · rw [upd_ne e]
    show (if 40 * u ≤ q ∧ q < 40 * u + k then a1 (40 * t + (q - 40 * u)) else a1 q) = if 40 * u ≤ q ∧ q < 40 * u + (k + 1) then a1 (40 * t + (q - 40 * u)) else a1 q
    by_cases e2 : 40 * u ≤ q ∧ q < 40 * u + k
    · rw [if_pos e2, if_pos (by omega)]
    · rw [if_neg e2, if_neg (by omega)]
theorem tx_cp {a1 a2 : Nat → Int32} {t u : Nat} {x : g_Cl} (h : tx a1 a2 t x) : tx (cp1 a1 t u 40) (upd a2 u (a2 t)) u x := by
  obtain ⟨c, n, h1, h2, h3, h4⟩ := h
  refine ⟨c, n, h1, by rw [upd_eq, h2], fun i hi => ?_, h4⟩
  have e : cp1 a1 t u 40 (40 * u + i) = a1 (40 * t + i) := by
    show (if 40 * u ≤ 40 * u + i ∧ 40 * u + i < 40 * u + 40 then a1 (40 * t + (40 * u + i - 40 * u)) else _) = _
    rw [if_pos (by omega)]
    congr 1
    omega
  rw [e]
  exact h3 i hi
theorem tx_kp {a1 a2 : Nat → Int32} {t u v : Nat} {x : g_Cl} {y : Int32} (hne : v ≠ u) (h : tx a1 a2 v x) : tx (cp1 a1 t u 40) (upd a2 u y) v x := by
  obtain ⟨c, n, h1, h2, h3, h4⟩ := h
  refine ⟨c, n, h1, by rw [upd_ne hne, h2], fun i hi => ?_, h4⟩
  have e : cp1 a1 t u 40 (40 * v + i) = a1 (40 * v + i) := if_neg (by omega)
  rw [e]
  exact h3 i hi
theorem tx_len {a1 a2 : Nat → Int32} {v u : Nat} {x : g_Cl} {y : Int32} (hne : v ≠ u) (h : tx a1 a2 v x) : tx a1 (upd a2 u y) v x := by
  obtain ⟨c, n, h1, h2, h3, h4⟩ := h
  exact ⟨c, n, h1, by rw [upd_ne hne, h2], h3, h4⟩
section MTX
variable {N : Nat} {S : MS} {th : Int32} {de bl ke to : Nat} {a1 a2 a3 a4 a5 a6 a7 a8 : Nat → Int32}
theorem m_copy (hN : 60 ≤ N) {t u : Nat} (ht : t ≤ 95) (hu : u ≤ 95) (hne : t ≠ u) : fn_Md_copy N (Int32.ofNat t) (Int32.ofNat u) (ts S th de bl ke to a1 a2 a3 a4 a5 a6 a7 a8) = some (0, ts S th de bl ke to (cp1 a1 t u 40) (upd a2 u (a2 t)) a3 a4 a5 a6 a7 a8) := by
  have go : ∀ (n d k : Nat), k + n = 40 → n < d → fn_Md_copy_2 N d (Int32.ofNat t) (Int32.ofNat u) (Int32.ofNat k) (ts S th de bl ke to (cp1 a1 t u k) a2 a3 a4 a5 a6 a7 a8) = some (0, ts S th de bl ke to (cp1 a1 t u 40) (upd a2 u (a2 t)) a3 a4 a5 a6 a7 a8) := by
    intro n
    induction n with
    | zero =>
      intro d k hk hd
      obtain ⟨d, rfl⟩ : ∃ d', d = d' + 1 := ⟨d - 1, by omega⟩
      obtain rfl : k = 40 := by omega
      rw [fe_Md_copy_2, n_c40, if_pos (n_leT (Nat.le_refl _) (by omega)), if_pos (show md_in (Int32.ofNat t) (md_len 2) = true by rw [n_in (by omega), mL2]; omega), if_pos (show md_in (Int32.ofNat u) (md_len 2) = true by rw [n_in (by omega), mL2]; omega), ts_h2, n_nat (by omega), n_nat (by omega), ts_v2, ts_pr]
    | succ n ih =>
      intro d k hk hd
      obtain ⟨d, rfl⟩ : ∃ d', d = d' + 1 := ⟨d - 1, by omega⟩
      rw [fe_Md_copy_2, n_c40, if_neg (n_leF (by omega) (by omega)), n_mul, n_mul, n_add, n_add, if_pos (show md_in (Int32.ofNat (40 * t + k)) (md_len 1) = true by rw [n_in (by omega), mL1]; omega), if_pos (show md_in (Int32.ofNat (40 * u + k)) (md_len 1) = true by rw [n_in (by omega), mL1]; omega), ts_h1, n_nat (by omega), n_nat (by omega), ts_v1, ts_pr, cp1_s hne (by omega), n_1, n_add]
      exact ih d (k + 1) (by omega) (by omega)
  have key := go 40 N 0 (by omega) (by omega)
  rw [cp1_0] at key
  unfold fn_Md_copy fn_Md_copy_0
  rw [n_0]
  exact key
/-- what closing does to the texts -/
def cl_tx (a1 a2 b1 b2 : Nat → Int32) (u m : Nat) : Prop := (∀ i x, i < m → tx a1 a2 i x → tx b1 b2 (u + i) x) ∧ (∀ v x, v < u ∨ u + m ≤ v → tx a1 a2 v x → tx b1 b2 v x) ∧ (∀ q, q < 40 * u ∨ 40 * (u + m) ≤ q → b1 q = a1 q) ∧ ∀ q, q < u ∨ u + m ≤ q → b2 q = a2 q
theorem m_close (hN : 60 ≤ N) {m : Nat} (hm : m ≤ 5) (hb : bl < 16) (h3 : a3 0 = Int32.ofNat m) : ∃ b1 b2, fn_Md_close N (ts S th de bl ke to a1 a2 a3 a4 a5 a6 a7 a8) = some (Int32.ofNat (bl + 1), ts S th de (bl + 1) ke to b1 b2 (upd (upd a3 (bl + 1) (Int32.ofNat m)) 0 (Int32.ofNat 0)) a4 a5 a6 a7 a8) ∧ cl_tx a1 a2 b1 b2 (5 * (bl + 1)) m := by
  have i3 : md_in (Int32.ofInt 0) (md_len 3) = true := by decide
  have z0 : (Int32.ofInt 0).toNatClampNeg = 0 := rfl
  have go : ∀ (n d k : Nat) (b1 b2 : Nat → Int32), k + n = m → n < d → cl_tx a1 a2 b1 b2 (5 * (bl + 1)) k → ∃ c1 c2, fn_Md_close_12 N d (Int32.ofNat k) (ts S th de (bl + 1) ke to b1 b2 a3 a4 a5 a6 a7 a8) = some (Int32.ofNat (bl + 1), ts S th de (bl + 1) ke to c1 c2 (upd (upd a3 (bl + 1) (Int32.ofNat m)) 0 (Int32.ofNat 0)) a4 a5 a6 a7 a8) ∧ cl_tx a1 a2 c1 c2 (5 * (bl + 1)) m := by
    intro n
    induction n with
    | zero =>
      intro d k b1 b2 hk hd hc
      obtain ⟨d, rfl⟩ : ∃ d', d = d' + 1 := ⟨d - 1, by omega⟩
      obtain rfl : k = m := by omega
      refine ⟨b1, b2, ?_, hc⟩
      rw [fe_Md_close_12, if_pos i3, z0, ts_h3, h3, if_pos (n_leT (Nat.le_refl _) (by omega)), if_pos i3, ts_g5, if_pos (show md_in (Int32.ofNat (bl + 1)) (md_len 3) = true by rw [n_in (by omega), mL3]; omega), if_pos i3, n_nat (by omega), ts_v3, ts_pr, ts_h3, ts_v3, ts_pr]
      rfl
    | succ n ih =>
      intro d k b1 b2 hk hd hc
      obtain ⟨d, rfl⟩ : ∃ d', d = d' + 1 := ⟨d - 1, by omega⟩
      rw [fe_Md_close_12, if_pos i3, z0, ts_h3, h3, if_neg (n_leF (by omega) (by omega)), ts_g5, n_5, n_mul, n_add, m_copy hN (show k ≤ 95 by omega) (show 5 * (bl + 1) + k ≤ 95 by omega) (by omega), Option.bind_some, n_1, n_add]
      refine ih d (k + 1) _ _ (by omega) (by omega) ?_
      obtain ⟨q1, q2, q3, q4⟩ := hc
      refine ⟨fun i x hi h => ?_, fun v x hv h => ?_, fun q hq => ?_, fun q hq => ?_⟩
      · by_cases e : i = k
        · subst e
          exact tx_cp (q2 i x (by omega) h)
        · exact tx_kp (by omega) (q1 i x (by omega) h)
      · exact tx_kp (by omega) (q2 v x (by omega) h)
      · rw [← q3 q (by omega)]
        exact if_neg (by omega)
      · rw [upd_ne (by omega)]
        exact q4 q (by omega)
  unfold fn_Md_close fn_Md_close_0
  rw [ts_g5, n_1, n_add, ts_u5, ts_pr, n_0]
  exact go m N 0 a1 a2 (by omega) (by omega) ⟨fun i x hi => absurd hi (by omega), fun v x _ h => h, fun _ _ => rfl, fun _ _ => rfl⟩
end MTX
theorem ts_self {S : MS} {de bl ke to : Nat} (h4 : S.1 4 = Int32.ofNat de) (h5 : S.1 5 = Int32.ofNat bl) (h6 : S.1 6 = Int32.ofNat ke) (h9 : S.1 9 = Int32.ofNat to) : ts S (S.1 0) de bl ke to (S.2 1) (S.2 2) (S.2 3) (S.2 4) (S.2 5) (S.2 6) (S.2 7) (S.2 8) = S := by
  refine Prod.ext (funext fun k => ?_) (funext fun j => ?_)
  · show (if k = 0 then S.1 0 else if k = 4 then Int32.ofNat de else if k = 5 then Int32.ofNat bl else if k = 6 then Int32.ofNat ke else if k = 9 then Int32.ofNat to else S.1 k) = S.1 k
    by_cases e0 : k = 0
    · rw [if_pos e0, e0]
    rw [if_neg e0]
    by_cases e4 : k = 4
    · rw [if_pos e4, e4, h4]
    rw [if_neg e4]
    by_cases e5 : k = 5
    · rw [if_pos e5, e5, h5]
    rw [if_neg e5]
    by_cases e6 : k = 6
    · rw [if_pos e6, e6, h6]
    rw [if_neg e6]
    by_cases e9 : k = 9
    · rw [if_pos e9, e9, h9]
    rw [if_neg e9]
  · show (if j = 1 then S.2 1 else if j = 2 then S.2 2 else if j = 3 then S.2 3 else if j = 4 then S.2 4 else if j = 5 then S.2 5 else if j = 6 then S.2 6 else if j = 7 then S.2 7 else if j = 8 then S.2 8 else S.2 j) = S.2 j
    by_cases e1 : j = 1
    · rw [if_pos e1, e1]
    rw [if_neg e1]
    by_cases e2 : j = 2
    · rw [if_pos e2, e2]
    rw [if_neg e2]
    by_cases e3 : j = 3
    · rw [if_pos e3, e3]
    rw [if_neg e3]
    by_cases e4 : j = 4
    · rw [if_pos e4, e4]
    rw [if_neg e4]
    by_cases e5 : j = 5
    · rw [if_pos e5, e5]
    rw [if_neg e5]
    by_cases e6 : j = 6
    · rw [if_pos e6, e6]
    rw [if_neg e6]
    by_cases e7 : j = 7
    · rw [if_pos e7, e7]
    rw [if_neg e7]
    by_cases e8 : j = 8
    · rw [if_pos e8, e8]
    rw [if_neg e8]
