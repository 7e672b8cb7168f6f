/-! ### Simple calls: latest -/
theorem o_latest (N : Nat) (C : Nat × Nat) {h : ag_H} {S : MS} {fs gs ks : List Value} (e : ag_at h (.ref 2) = some (.inr (0, fs))) (h2 : fs[2]? = some (.ref 7)) (e7 : ag_at h (.ref 7) = some (.inr (3, gs))) (g0 : gs[0]? = some (.ref 8)) (g3 : gs[3]? = some (.int (S.1 35))) (g4 : gs[4]? = some (.int (S.1 36))) (g5 : gs[5]? = some (.int (S.1 37))) (e8 : ag_at h (.ref 8) = some (.inr (4, ks))) (k1 : ks[1]? = some (.int (S.1 32))) (x : Int32) :
    ∃ y, fn_GC_latest N C 2 x h = some (y, h) ∧ fn_Md_latest N x S = some (y, (va_up S.1 0 (Int32.ofInt 0), S.2)) := by
  unfold fn_GC_latest fn_GC_latest_0 fn_Md_latest fn_Md_latest_0
  by_cases c0 : x = 0
  · refine ⟨S.1 35, ?_, (if_pos c0).trans rfl⟩
    rw [if_pos c0, pu_gr e h2, Option.bind_some, pu_gi e7 g3, Option.bind_some]
  by_cases c1 : x = 1
  · refine ⟨S.1 32, ?_, (if_neg c0).trans ((if_pos c1).trans rfl)⟩
    rw [if_neg c0, if_pos c1, pu_gr e h2, Option.bind_some, pu_gr e7 g0, Option.bind_some, pu_gi e8 k1, Option.bind_some]
  by_cases c2 : x = 2
  · refine ⟨S.1 36, ?_, (if_neg c0).trans ((if_neg c1).trans ((if_pos c2).trans rfl))⟩
    rw [if_neg c0, if_neg c1, if_pos c2, pu_gr e h2, Option.bind_some, pu_gi e7 g4, Option.bind_some]
  by_cases c3 : x = 3
  · refine ⟨S.1 37, ?_, (if_neg c0).trans ((if_neg c1).trans ((if_neg c2).trans ((if_pos c3).trans rfl)))⟩
    rw [if_neg c0, if_neg c1, if_neg c2, if_pos c3, pu_gr e h2, Option.bind_some, pu_gi e7 g5, Option.bind_some]
  refine ⟨Int32.ofInt 0, ?_, (if_neg c0).trans ((if_neg c1).trans ((if_neg c2).trans ((if_neg c3).trans rfl)))⟩
  rw [if_neg c0, if_neg c1, if_neg c2, if_neg c3]
