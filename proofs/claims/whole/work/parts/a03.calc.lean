/-! ### Sums and comparisons worked out -/
def j_bd (z : Int32) : Prop := -99999 ≤ z.toInt ∧ z.toInt ≤ 99999
theorem bm32 {z : Int} (h1 : -2147483648 ≤ z) (h2 : z < 2147483648) : z.bmod 4294967296 = z := by
  rw [Int.bmod_def]; split <;> omega
theorem bm64 {z : Int} (h1 : -9223372036854775808 ≤ z) (h2 : z < 9223372036854775808) : z.bmod 18446744073709551616 = z := by
  rw [Int.bmod_def]; split <;> omega
theorem l_add (l r : Int32) : (l.toInt64 + r.toInt64).toInt = l.toInt + r.toInt := by
  have h1 := l.le_toInt; have h2 := l.toInt_lt; have h3 := r.le_toInt; have h4 := r.toInt_lt
  rw [Int64.toInt_add, Int32.toInt_toInt64, Int32.toInt_toInt64]
  exact bm64 (by omega) (by omega)
theorem l_sub (l r : Int32) : (l.toInt64 - r.toInt64).toInt = l.toInt - r.toInt := by
  have h1 := l.le_toInt; have h2 := l.toInt_lt; have h3 := r.le_toInt; have h4 := r.toInt_lt
  rw [Int64.toInt_sub, Int32.toInt_toInt64, Int32.toInt_toInt64]
  exact bm64 (by omega) (by omega)
theorem mul_bd {l r : Int} (h1 : -99999 ≤ l) (h2 : l ≤ 99999) (h3 : -99999 ≤ r) (h4 : r ≤ 99999) : -9999800001 ≤ l * r ∧ l * r ≤ 9999800001 := by
  have e : (l * r).natAbs = l.natAbs * r.natAbs := Int.natAbs_mul l r
  have k : l.natAbs * r.natAbs ≤ 99999 * 99999 := Nat.mul_le_mul (by omega) (by omega)
  omega
theorem l_mul {l r : Int32} (h1 : j_bd l) (h2 : j_bd r) : (l.toInt64 * r.toInt64).toInt = l.toInt * r.toInt := by
  have := mul_bd h1.1 h1.2 h2.1 h2.2
  rw [Int64.toInt_mul, Int32.toInt_toInt64, Int32.toInt_toInt64]
  exact bm64 (by omega) (by omega)
theorem lg_lt (x y : Int64) : lg_cmp x y < 0 ↔ x.toInt < y.toInt := by
  unfold lg_cmp
  by_cases e1 : x > y
  · rw [if_pos e1]
    have := Int64.lt_iff_toInt_lt.mp e1
    constructor
    · intro h; exact absurd h (by decide)
    · intro h; omega
  · rw [if_neg e1]
    by_cases e2 : x = y
    · rw [if_pos e2, e2]
      constructor
      · intro h; exact absurd h (by decide)
      · intro h; omega
    · rw [if_neg e2]
      have h1 : ¬ y.toInt < x.toInt := fun q => e1 (Int64.lt_iff_toInt_lt.mpr q)
      have h2 : x.toInt ≠ y.toInt := fun q => e2 (Int64.toInt_inj.mp q)
      constructor
      · intro _; omega
      · intro _; decide
theorem lg_le (x y : Int64) : lg_cmp x y ≤ 0 ↔ x.toInt ≤ y.toInt := by
  unfold lg_cmp
  by_cases e1 : x > y
  · rw [if_pos e1]
    have := Int64.lt_iff_toInt_lt.mp e1
    constructor
    · intro h; exact absurd h (by decide)
    · intro h; omega
  · rw [if_neg e1]
    have h1 : ¬ y.toInt < x.toInt := fun q => e1 (Int64.lt_iff_toInt_lt.mpr q)
    by_cases e2 : x = y
    · rw [if_pos e2, e2]
      constructor
      · intro _; omega
      · intro _; decide
    · rw [if_neg e2]
      constructor
      · intro _; omega
      · intro _; decide
theorem l_32 {x : Int64} {z : Int} (h : x.toInt = z) (h1 : -2147483648 ≤ z) (h2 : z < 2147483648) : x.toInt32 = Int32.ofInt z := by
  apply Int32.toInt_inj.mp
  rw [Int64.toInt_toInt32, h, i_toInt h1 h2]
  exact bm32 h1 h2
theorem j_div {l r : Int32} (h1 : j_bd l) : (l / r).toInt = l.toInt.tdiv r.toInt ∧ j_bd (l / r) := by
  have hq : (l.toInt.tdiv r.toInt).natAbs ≤ l.toInt.natAbs := by
    rw [Int.natAbs_tdiv]
    exact Nat.div_le_self _ _
  obtain ⟨b1, b2⟩ := h1
  have e : (l / r).toInt = l.toInt.tdiv r.toInt := by
    rw [Int32.toInt_div]
    exact bm32 (by omega) (by omega)
  refine ⟨e, ?_, ?_⟩
  · rw [e]; omega
  · rw [e]; omega
theorem c_calc52 {N : Nat} {C : Nat × Nat} {h : ag_H} {x : Int64} {z : Int} (e : x.toInt = z) : fn_Jg_calculate_52 N C x h = some (if z < -99999 ∨ 99999 < z then 100000 else Int32.ofInt z, h) := by
  unfold fn_Jg_calculate_52 fn_Jg_calculate_68 fn_Jg_calculate_75
  have m1 : (-99999 : Int64).toInt = -99999 := by decide
  have m2 : (99999 : Int64).toInt = 99999 := by decide
  by_cases e1 : z < -99999
  · rw [if_pos ((lg_lt _ _).mpr (by rw [e, m1]; exact e1)), if_pos (Or.inl e1)]
  · rw [if_neg (fun q => e1 (by have := (lg_lt _ _).mp q; rw [e, m1] at this; exact this))]
    by_cases e2 : 99999 < z
    · rw [if_neg (fun q => by have := (lg_le _ _).mp q; rw [e, m2] at this; omega), if_pos (Or.inr e2)]
    · rw [if_pos ((lg_le _ _).mpr (by rw [e, m2]; omega)), if_neg (by omega), l_32 e (by omega) (by omega)]
theorem c_calc {N : Nat} {C : Nat × Nat} {h : ag_H} {s : Nat} (hs : s = 42 ∨ s = 43 ∨ s = 45 ∨ s = 47) {l r : Int32} (h1 : j_bd l) (h2 : j_bd r) : fn_Jg_calculate N C (Int32.ofNat s) l r h = some ((j_calc s l r).getD 100000, h) ∧ ∀ z, j_calc s l r = some z → j_bd z := by
  unfold fn_Jg_calculate fn_Jg_calculate_0 fn_Jg_calculate_18 j_calc
  rw [n_c47, n_c43, n_c45]
  have fin : ∀ z : Int, (some (if z < -99999 ∨ 99999 < z then (100000 : Int32) else Int32.ofInt z, h) = some ((if z < -99999 ∨ 99999 < z then none else some (Int32.ofInt z) : Option Int32).getD 100000, h)) ∧ ∀ y, (if z < -99999 ∨ 99999 < z then none else some (Int32.ofInt z) : Option Int32) = some y → j_bd y := by
    intro z
    by_cases e : z < -99999 ∨ 99999 < z
    · rw [if_pos e, if_pos e]
      exact ⟨rfl, fun y q => by cases q⟩
    · rw [if_neg e, if_neg e]
      refine ⟨rfl, fun y q => ?_⟩
      cases q
      have : (Int32.ofInt z).toInt = z := i_toInt (by omega) (by omega)
      exact ⟨by rw [this]; omega, by rw [this]; omega⟩
  rcases hs with rfl | rfl | rfl | rfl
  · rw [if_neg (by decide), if_neg (by decide), if_neg (by decide), c_calc52 (l_mul h1 h2), if_neg (show ¬ (42 : Nat) = 47 by decide)]
    simp only [show ¬ (42 : Nat) = 43 by decide, show ¬ (42 : Nat) = 45 by decide, if_false]
    exact fin _
  · rw [if_neg (by decide), if_pos rfl, c_calc52 (l_add l r), if_neg (show ¬ (43 : Nat) = 47 by decide)]
    simp only [if_true]
    exact fin _
  · rw [if_neg (by decide), if_neg (by decide), if_pos rfl, c_calc52 (l_sub l r), if_neg (show ¬ (45 : Nat) = 47 by decide)]
    simp only [show ¬ (45 : Nat) = 43 by decide, if_false, if_true]
    exact fin _
  · rw [if_pos rfl, if_pos rfl]
    by_cases e : r = 0
    · rw [if_pos e, if_pos e]
      exact ⟨rfl, fun z q => by cases q⟩
    · rw [if_neg e, if_neg e, if_pos e]
      refine ⟨rfl, fun z q => ?_⟩
      cases q
      exact (j_div h1).2
theorem c_cmpj {N : Nat} {C : Nat × Nat} {h : ag_H} {s : Nat} (hs : s = 60 ∨ s = 62 ∨ s = 61 ∨ s = 35) {l r : Int32} : fn_Jg_compare N C (Int32.ofNat s) l r h = some (if j_cmp s l r = true then Int32.ofInt 1 else Int32.ofInt 0, h) := by
  have nle : ∀ a b : Int32, a ≤ b ↔ ¬ b < a := fun a b => by rw [Int32.le_iff_toInt_le, Int32.lt_iff_toInt_lt]; omega
  unfold fn_Jg_compare fn_Jg_compare_0 fn_Jg_compare_38 fn_Jg_compare_49 fn_Jg_compare_60 fn_Jg_compare_71 j_cmp
  simp only [if_pos n_b0, if_pos n_b1]
  rcases hs with rfl | rfl | rfl | rfl
  · rw [if_pos (by decide), if_pos rfl]
    by_cases e : l < r
    · rw [if_neg (fun q => (nle _ _).mp q e)]; simp [e]
    · rw [if_pos ((nle _ _).mpr e)]; simp [e]
  · rw [if_neg (by decide), if_neg (by decide), if_pos (by decide), if_neg (show ¬ (62 : Nat) = 60 by decide), if_pos rfl]
    by_cases e : r < l
    · rw [if_neg (fun q => (nle _ _).mp q e)]; simp [e]
    · rw [if_pos ((nle _ _).mpr e)]; simp [e]
  · rw [if_neg (by decide), if_pos (by decide), if_neg (show ¬ (61 : Nat) = 60 by decide), if_neg (show ¬ (61 : Nat) = 62 by decide), if_pos rfl]
    by_cases e : l = r
    · rw [if_pos e]; simp [e]
    · rw [if_neg e]; simp [e]
  · rw [if_neg (by decide), if_neg (by decide), if_neg (by decide), if_neg (show ¬ (35 : Nat) = 60 by decide), if_neg (show ¬ (35 : Nat) = 62 by decide), if_neg (show ¬ (35 : Nat) = 61 by decide)]
    by_cases e : l = r
    · rw [if_pos e]; simp [e]
    · rw [if_neg e]; simp [e]
