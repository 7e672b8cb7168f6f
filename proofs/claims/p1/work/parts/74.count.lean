/-! ### Simple calls: count -/
theorem o_size (N : Nat) (C : Nat × Nat) {h : ag_H} {a : Nat} {ls : List Value} {n : Int32} (e : ag_at h (.ref a) = some (.inr (11, ls))) (h1 : ls[1]? = some (.int n)) : fn_AL_size N C a h = some (n, h) := by
  unfold fn_AL_size fn_AL_size_0
  rw [pu_gi e h1, Option.bind_some]
theorem o_count (N : Nat) (C : Nat × Nat) {h : ag_H} {S : MS} {fs ls l1 l2 l3 l4 b3 b6 : List Value} {q3 q6 : Nat} (e : ag_at h (.ref 2) = some (.inr (0, fs))) (f0 : fs[0]? = some (.ref 3)) (f3 : fs[3]? = some (.ref 46)) (f4 : fs[4]? = some (.ref 48)) (f5 : fs[5]? = some (.ref 49)) (f6 : fs[6]? = some (.ref q6)) (f7 : fs[7]? = some (.int (S.1 6)))
    (e3 : ag_at h (.ref 3) = some (.inr (1, ls))) (g1 : ls[1]? = some (.int (S.2 2 ((Int8.ofInt (95)).toInt32).toNatClampNeg)))
    (e49 : ag_at h (.ref 49) = some (.inr (11, l1))) (s49 : l1[1]? = some (.int (S.1 9))) (e48 : ag_at h (.ref 48) = some (.inr (11, l2))) (s48 : l2[1]? = some (.int (S.1 5)))
    (e6 : ag_at h (.ref q6) = some (.inr (5, b6))) (b60 : b6[0]? = some (.ref q3)) (eq3 : ag_at h (.ref q3) = some (.inr (11, l3))) (sq3 : l3[1]? = some (.int (S.2 3 (Int32.ofInt 0).toNatClampNeg)))
    (e46 : ag_at h (.ref 46) = some (.inr (5, b3))) (b30 : b3[0]? = some (.ref 47)) (e47 : ag_at h (.ref 47) = some (.inr (11, l4))) (s47 : l4[1]? = some (.int (S.1 4))) (x : Int32) :
    ∃ y, fn_GC_count N C 2 x h = some (y, h) ∧ fn_Md_count N x S = some (y, (va_up S.1 0 (Int32.ofInt 0), S.2)) := by
  unfold fn_GC_count fn_GC_count_0 fn_Md_count fn_Md_count_0
  by_cases c0 : x = 0
  · subst c0
    refine ⟨S.1 9, ?_, (if_neg (by decide)).trans ((if_pos rfl).trans rfl)⟩
    rw [if_pos rfl, pu_gr e f5, Option.bind_some, pu_rc e49, Option.bind_some, o_size N C e49 s49, Option.bind_some]
  by_cases c1 : x = 1
  · subst c1
    refine ⟨S.1 5, ?_, (if_neg (by decide)).trans ((if_neg (by decide)).trans ((if_pos (by decide)).trans rfl))⟩
    rw [if_neg (by decide), if_pos rfl, pu_gr e f4, Option.bind_some, pu_rc e48, Option.bind_some, o_size N C e48 s48, Option.bind_some]
  by_cases c2 : x = 2
  · subst c2
    refine ⟨S.1 6, ?_, (if_neg (by decide)).trans ((if_neg (by decide)).trans ((if_neg (by decide)).trans ((if_pos (by decide)).trans rfl)))⟩
    rw [if_neg (by decide), if_neg (by decide), if_pos rfl, pu_gi e f7, Option.bind_some]
  by_cases c3 : x = 3
  · subst c3
    refine ⟨_, ?_, (if_pos (by decide)).trans ((if_pos (by decide)).trans ((if_pos (by decide)).trans rfl))⟩
    rw [if_neg (by decide), if_neg (by decide), if_neg (by decide), if_pos rfl, pu_gr e f6, Option.bind_some, pu_gr e6 b60, Option.bind_some, pu_rc eq3, Option.bind_some, o_size N C eq3 sq3, Option.bind_some]
  by_cases c4 : x = 4
  · subst c4
    refine ⟨S.1 4, ?_, (if_pos (by decide)).trans ((if_neg (by decide)).trans ((if_pos (by decide)).trans rfl))⟩
    rw [if_neg (by decide), if_neg (by decide), if_neg (by decide), if_neg (by decide), if_pos rfl, pu_gr e f3, Option.bind_some, pu_gr e46 b30, Option.bind_some, pu_rc e47, Option.bind_some, o_size N C e47 s47, Option.bind_some]
  by_cases c5 : x = 5
  · subst c5
    refine ⟨_, ?_, (if_pos (by decide)).trans ((if_neg (by decide)).trans ((if_neg (by decide)).trans ((if_pos (by decide)).trans ((if_pos (by decide)).trans rfl))))⟩
    rw [if_neg (by decide), if_neg (by decide), if_neg (by decide), if_neg (by decide), if_neg (by decide), if_pos rfl, pu_gr e f0, Option.bind_some, pu_gi e3 g1, Option.bind_some]
  refine ⟨Int32.ofInt (-1), ?_, ?_⟩
  · rw [if_neg c0, if_neg c1, if_neg c2, if_neg c3, if_neg c4, if_neg c5]
  · by_cases c : Int32.ofInt 3 ≤ x
    · exact (if_pos c).trans ((if_neg c3).trans ((if_neg c4).trans ((if_neg c5).trans rfl)))
    · exact (if_neg c).trans ((if_neg c0).trans ((if_neg c1).trans ((if_neg c2).trans rfl)))
