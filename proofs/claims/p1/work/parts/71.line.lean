/-! ### Simple calls: wipe, type -/
theorem o_wipe (N : Nat) (C : Nat × Nat) {h : ag_H} {S : MS} {fs : List Value} {len p : Int32} (e : ag_at (md_up h 52 S) (.ref 2) = some (.inr (0, fs))) (h0 : fs[0]? = some (.ref 3)) (e3 : ag_at (md_up h 52 S) (.ref 3) = some (.inr (1, [.ref 4, .int len, .int p]))) :
    fn_GC_wipe N C 2 (md_up h 52 S) = some (0, md_up (ag_up h 3 (.inr (1, [.ref 4, .int (Int32.ofInt 0), .int p]))) 52 S) ∧ fn_Md_wipe N S = some (0, (va_up S.1 0 (Int32.ofInt 0), va_up S.2 2 (upd (S.2 2) 95 (Int32.ofInt 0)))) := by
  refine ⟨?_, rfl⟩
  unfold fn_GC_wipe fn_GC_wipe_0
  rw [pu_gr e h0, Option.bind_some, pu_pf e3 (Nat.le_of_ble_eq_true rfl) rfl rfl, Option.bind_some, pu_md_up S _ (Or.inl (by decide))]
  rfl
theorem o_put0 (N : Nat) (C : Nat × Nat) (a : Nat) (h : ag_H) : fn_Ln_put_21 N C a h = some (Int32.ofInt 0, h) := rfl
theorem o_typ0 (N : Nat) (S : MS) : fn_Md_type_29 N S = some (Int32.ofInt 0, S) := rfl
/-- the class's side of type -/
theorem o_type (N : Nat) (C : Nat × Nat) {h : ag_H} {S : MS} {fs : List Value} {n : Nat} {p x : Int32} {f : Nat → Int32} (e : ag_at (md_up h 52 S) (.ref 2) = some (.inr (0, fs))) (h0 : fs[0]? = some (.ref 3)) (e3 : ag_at (md_up h 52 S) (.ref 3) = some (.inr (1, [.ref 4, .int (Int32.ofNat n), .int p]))) (e4 : ag_at (md_up h 52 S) (.ref 4) = some (.inl (1, 40, .inl f)))
    (c1 : ¬ x < (Int8.ofInt (32)).toInt32) (c2 : ¬ (Int8.ofInt (126)).toInt32 < x) (c3 : Int32.ofNat n < (Int8.ofInt (40)).toInt32) (hm : md_in (Int32.ofNat n) 40 = true) :
    fn_GC_type N C 2 x (md_up h 52 S) = some (Int32.ofInt 1, md_up (ag_up (ag_up h 4 (.inl (1, 40, .inl (upd f (Int32.ofNat n).toNatClampNeg (vp_nar .char x))))) 3 (.inr (1, [.ref 4, .int (Int32.ofNat n + Int32.ofInt 1), .int p]))) 52 S) := by
  unfold fn_GC_type fn_GC_type_0
  rw [pu_gr e h0, Option.bind_some, pu_rc e3, Option.bind_some]
  unfold fn_Ln_put fn_Ln_put_0
  have e3' := (pu_up_ne (h := md_up h 52 S) (q := 4) (.inl (1, 40, .inl (upd f (Int32.ofNat n).toNatClampNeg (vp_nar .char x)))) (show (3 : Nat) ≠ 4 by decide)).trans e3
  rw [if_neg c1, if_neg c2, pu_gi (k := 1) e3 rfl, Option.bind_some, if_pos c3, pu_gr (k := 0) e3 rfl, Option.bind_some, Option.bind_some, pu_ai e4, Option.bind_some, if_pos hm]
  show ((ag_gi (ag_up (md_up h 52 S) 4 (.inl (1, 40, .inl (upd f (Int32.ofNat n).toNatClampNeg (vp_nar .char x))))) (some 3) 1 1).bind _).bind _ = _
  rw [pu_gi (k := 1) e3' rfl, Option.bind_some]
  show ((ag_pf (ag_up (md_up h 52 S) 4 (.inl (1, 40, .inl (upd f (Int32.ofNat n).toNatClampNeg (vp_nar .char x))))) (ag_rf (some 3)) 1 1 .int (.int (Int32.ofNat n + Int32.ofInt 1))).bind _).bind _ = _
  rw [pu_pf e3' (Nat.le_of_ble_eq_true rfl) rfl rfl, Option.bind_some, pu_md_up S _ (Or.inl (by decide)), pu_md_up S _ (Or.inl (by decide))]
  rfl
