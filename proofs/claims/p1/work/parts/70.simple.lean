/-! ### Simple calls: limits -/
theorem o_lim0 (N : Nat) (C : Nat × Nat) (a : Nat) (h : ag_H) : fn_GC_limits_22 N C a h = some (Int32.ofInt 0, h) := rfl
theorem o_lim1 (N : Nat) (S : MS) : fn_Md_limits_27 N S = some (Int32.ofInt 0, S) := rfl
/-- both refuse, or both take the two numbers -/
theorem o_limits (N : Nat) (C : Nat × Nat) {h : ag_H} {S : MS} {fs : List Value} (e : ag_at (md_up h 52 S) (.ref 2) = some (.inr (0, fs))) (hl : fs.length = 10) (x1 x2 : Int32) :
    (fn_GC_limits N C 2 x1 x2 (md_up h 52 S) = some (Int32.ofInt 0, md_up h 52 S) ∧ fn_Md_limits N x1 x2 S = some (Int32.ofInt 0, (va_up S.1 0 (Int32.ofInt 0), S.2))) ∨
    (fn_GC_limits N C 2 x1 x2 (md_up h 52 S) = some (Int32.ofInt 1, md_up (ag_up (ag_up h 2 (.inr (0, fs.set 8 (.int x1)))) 2 (.inr (0, (fs.set 8 (.int x1)).set 9 (.int x2)))) 52 S) ∧ fn_Md_limits N x1 x2 S = some (Int32.ofInt 1, (va_up (va_up (va_up S.1 0 (Int32.ofInt 0)) 7 x1) 8 x2, S.2))) := by
  unfold fn_GC_limits fn_GC_limits_0 fn_Md_limits fn_Md_limits_0
  by_cases c1 : x1 < Int32.ofInt 1
  · rw [if_pos c1, if_pos c1]
    exact Or.inl ⟨rfl, rfl⟩
  rw [if_neg c1, if_neg c1]
  by_cases c2 : (Int8.ofInt (30)).toInt32 < x1
  · rw [if_pos c2, if_pos c2]
    exact Or.inl ⟨rfl, rfl⟩
  rw [if_neg c2, if_neg c2]
  by_cases c3 : x2 < Int32.ofInt 1
  · rw [if_pos c3, if_pos c3]
    exact Or.inl ⟨rfl, rfl⟩
  rw [if_neg c3, if_neg c3]
  by_cases c4 : x2 ≤ (Int8.ofInt (12)).toInt32
  · rw [if_pos c4, if_pos c4]
    refine Or.inr ⟨?_, rfl⟩
    rw [pu_pf e (by rw [hl]; decide) rfl rfl, Option.bind_some, pu_pf (pu_up_eq _ e) (by rw [List.length_set, hl]; decide) rfl rfl, Option.bind_some, pu_md_up S _ (Or.inl (by decide)), pu_md_up S _ (Or.inl (by decide))]
    rfl
  · rw [if_neg c4, if_neg c4]
    exact Or.inl ⟨rfl, rfl⟩
