/-! ### The reference's side of type -/
theorem o_typm (N : Nat) {S : MS} {x : Int32} (c1 : ¬ x < (Int8.ofInt (32)).toInt32) (c2 : ¬ (Int8.ofInt (126)).toInt32 < x) (c3 : S.2 2 ((Int8.ofInt (95)).toInt32).toNatClampNeg < (Int8.ofInt (40)).toInt32) (hm : md_in ((Int16.ofInt (3800)).toInt32 + S.2 2 ((Int8.ofInt (95)).toInt32).toNatClampNeg) (md_len 1) = true) :
    fn_Md_type N x S = some (Int32.ofInt 1, (va_up S.1 0 (Int32.ofInt 0), va_up (va_up S.2 1 (upd (S.2 1) ((Int16.ofInt (3800)).toInt32 + S.2 2 ((Int8.ofInt (95)).toInt32).toNatClampNeg).toNatClampNeg x)) 2 (upd (S.2 2) ((Int8.ofInt (95)).toInt32).toNatClampNeg (S.2 2 ((Int8.ofInt (95)).toInt32).toNatClampNeg + Int32.ofInt 1)))) := by
  unfold fn_Md_type fn_Md_type_0
  refine (if_neg c1).trans ?_
  refine (if_neg c2).trans ?_
  refine (if_pos (by decide)).trans ?_
  refine (if_pos c3).trans ?_
  refine (if_pos (by decide)).trans ?_
  refine (if_pos hm).trans ?_
  refine (if_pos (by decide)).trans ?_
  refine (if_pos (by decide)).trans ?_
  refine (if_pos (by decide)).trans ?_
  rfl
theorem o_typr (N : Nat) {S : MS} {x : Int32} (c : x < (Int8.ofInt (32)).toInt32 ∨ (Int8.ofInt (126)).toInt32 < x ∨ ¬ S.2 2 ((Int8.ofInt (95)).toInt32).toNatClampNeg < (Int8.ofInt (40)).toInt32) : fn_Md_type N x S = some (Int32.ofInt 0, (va_up S.1 0 (Int32.ofInt 0), S.2)) := by
  unfold fn_Md_type fn_Md_type_0
  by_cases c1 : x < (Int8.ofInt (32)).toInt32
  · exact (if_pos c1).trans rfl
  refine (if_neg c1).trans ?_
  by_cases c2 : (Int8.ofInt (126)).toInt32 < x
  · exact (if_pos c2).trans rfl
  refine (if_neg c2).trans ?_
  refine (if_pos (by decide)).trans ?_
  have c3 : ¬ S.2 2 ((Int8.ofInt (95)).toInt32).toNatClampNeg < (Int8.ofInt (40)).toInt32 := by
    rcases c with c | c | c
    · exact absurd c c1
    · exact absurd c c2
    · exact c
  exact (if_neg c3).trans rfl
/-- the class's side, refused -/
theorem o_typc (N : Nat) (C : Nat × Nat) {h : ag_H} {S : MS} {fs : List Value} {len p x : Int32} {r : Value} (e : ag_at (md_up h 52 S) (.ref 2) = some (.inr (0, fs))) (h0 : fs[0]? = some (.ref 3)) (e3 : ag_at (md_up h 52 S) (.ref 3) = some (.inr (1, [r, .int len, .int p])))
    (c : x < (Int8.ofInt (32)).toInt32 ∨ (Int8.ofInt (126)).toInt32 < x ∨ ¬ len < (Int8.ofInt (40)).toInt32) : fn_GC_type N C 2 x (md_up h 52 S) = some (Int32.ofInt 0, md_up h 52 S) := by
  unfold fn_GC_type fn_GC_type_0
  rw [pu_gr e h0, Option.bind_some, pu_rc e3, Option.bind_some]
  unfold fn_Ln_put fn_Ln_put_0
  by_cases c1 : x < (Int8.ofInt (32)).toInt32
  · rw [if_pos c1]; rfl
  rw [if_neg c1]
  by_cases c2 : (Int8.ofInt (126)).toInt32 < x
  · rw [if_pos c2]; rfl
  have c3 : ¬ len < (Int8.ofInt (40)).toInt32 := by
    rcases c with c | c | c
    · exact absurd c c1
    · exact absurd c c2
    · exact c
  rw [if_neg c2, pu_gi (k := 1) e3 rfl, Option.bind_some, if_neg c3]
  rfl
