/-! ### Lists: what add, get, size, set, clear do to the pure heap -/
def up2 (g g' : ag_H) (a : Nat) (x : ag_C) (e : Nat) (y : ag_C) (dn ds : Nat) : Prop := g'.1 = g.1 + dn ∧ g'.2.1 = g.2.1 + ds ∧ g'.2.2 a = x ∧ g'.2.2 e = y ∧ ∀ q, q ≠ a → q ≠ e → g'.2.2 q = g.2.2 q
theorem pu_le {h : ag_H} {e t : Nat} {x : vp_A} (h2 : ag_at h (.ref e) = some (.inl (t, x))) (ht : t ≤ 6) : ag_le h (some e) = some (Int32.ofNat x.1) := by
  obtain ⟨h3, -, -⟩ := pu_inv h2
  obtain ⟨j, rfl⟩ : ∃ j, e = j + 2 := ⟨e - 2, by omega⟩
  unfold ag_le
  have : ag_at h (ag_rf (some (j + 2))) = some (.inl (t, x)) := h2
  simp only [this, if_pos ht]
theorem pu_ao {h : ag_H} {e n : Nat} {f : Nat → Option Nat} (h2 : ag_at h (.ref e) = some (.inl (4, n, .inr (.inr (.inr (.inr f)))))) : ag_ao h (some e) = some (n, f) := by
  unfold ag_ao
  have : ag_at h (ag_rf (some e)) = some (.inl (4, n, .inr (.inr (.inr (.inr f))))) := h2
  simp [this]
theorem pu_as {h : ag_H} {e n b ci : Nat} {fs : List Value} {f : Nat → Option Nat} {i : Int32} (h2 : ag_at h (.ref e) = some (.inl (4, n, .inr (.inr (.inr (.inr f)))))) (hi : md_in i n = true) (hb : ag_at h (.ref b) = some (.inr (ci, fs))) (hc : ci ≤ 10) :
    ag_as h (some e) i (some b) = some (ag_up h e (.inl (4, n, .inr (.inr (.inr (.inr (va_up f i.toNatClampNeg (some b)))))))) := by
  unfold ag_as
  have : ag_at h (ag_rf (some e)) = some (.inl (4, n, .inr (.inr (.inr (.inr f))))) := h2
  simp only [this]
  rw [if_pos ⟨Or.inl trivial, hi⟩]
  simp only [hb]
  have hk : ag_cok 4 ci = true := by simp [ag_cok, hc]
  rw [if_pos hk]
  rfl
theorem pu_as0 {h : ag_H} {e n : Nat} {f : Nat → Option Nat} {i : Int32} (h2 : ag_at h (.ref e) = some (.inl (4, n, .inr (.inr (.inr (.inr f)))))) (hi : md_in i n = true) :
    ag_as h (some e) i none = some (ag_up h e (.inl (4, n, .inr (.inr (.inr (.inr (va_up f i.toNatClampNeg none))))))) := by
  unfold ag_as
  have : ag_at h (ag_rf (some e)) = some (.inl (4, n, .inr (.inr (.inr (.inr f))))) := h2
  simp only [this]
  rw [if_pos ⟨Or.inl trivial, hi⟩]
  rfl
section ALS
variable {N : Nat} {C : Nat × Nat} {g : ag_H} {a b ci : Nat} {md : Int32} {fs : List Value}
theorem al_size {k : Int32} {v : Value} (ea : ag_at g (.ref a) = some (.inr (11, [v, .int k, .int md]))) : fn_AL_size N C a g = some (k, g) := by
  unfold fn_AL_size fn_AL_size_0
  rw [pu_gi (k := 1) ea rfl, Option.bind_some]
theorem al_init (hg : 2 ≤ g.1) {x y z : Value} {m : Nat} : fn_AL_init N C g.1 (ag_nw g m (.inr (11, [x, y, z]))) = some (0, ag_nw g m (.inr (11, [.ref 1, y, .int (Int32.ofInt 0)]))) := by
  unfold fn_AL_init fn_AL_init_0 fn_AbL_init fn_AbL_init_0 fn_AbC_init fn_AbC_init_0
  rw [Option.bind_some, pu_pf (pu_nw_new hg) (Nat.le_of_ble_eq_true rfl) rfl rfl, Option.bind_some, pu_up_nw, Option.bind_some, pu_pf (pu_nw_new hg) (Nat.le_of_ble_eq_true rfl) rfl rfl, Option.bind_some, pu_up_nw]
  rfl
/-- the first element: an array of ten is made -/
theorem al_add0 (ea : ag_at g (.ref a) = some (.inr (11, [.ref 1, .int (Int32.ofNat 0), .int md]))) (hb : ag_at g (.ref b) = some (.inr (ci, fs))) (hc : ci ≤ 10) (hC1 : g.1 + 1 ≤ C.1) (hC2 : g.2.1 + 10 ≤ C.2) :
    ∃ g', fn_AL_add N C a (some b) g = some (Int32.ofInt 1, g') ∧ up2 g g' a (.inr (11, [.ref g.1, .int (Int32.ofNat 1), .int (md + Int32.ofInt 1)])) g.1 (.inl (4, 10, .inr (.inr (.inr (.inr (va_up (fun _ => none) 0 (some b))))))) 1 10 := by
  obtain ⟨a2, a3, a4⟩ := pu_inv ea
  obtain ⟨b2, b3, b4⟩ := pu_inv hb
  have hab : b ≠ a := by
    rintro rfl
    rw [ea] at hb
    cases hb
    omega
  unfold fn_AL_add fn_AL_add_0
  rw [pu_gi (k := 2) ea rfl, Option.bind_some, pu_pf ea (Nat.le_of_ble_eq_true rfl) rfl rfl, Option.bind_some]
  have e1 : ag_at (ag_up g a (.inr (11, [Value.ref 1, Value.int (Int32.ofNat 0), Value.int md].set 2 (.int (md + Int32.ofInt 1))))) (.ref a) = some (.inr (11, [.ref 1, .int (Int32.ofNat 0), .int (md + Int32.ofInt 1)])) := pu_up_eq _ ea
  have f1 : ag_at (ag_up g a (.inr (11, [Value.ref 1, Value.int (Int32.ofNat 0), Value.int md].set 2 (.int (md + Int32.ofInt 1))))) (.ref b) = some (.inr (ci, fs)) := (pu_up_ne _ hab).trans hb
  have g1e : ∀ q, q ≠ a → (ag_up g a (.inr (11, [Value.ref 1, Value.int (Int32.ofNat 0), Value.int md].set 2 (.int (md + Int32.ofInt 1))))).2.2 q = g.2.2 q := fun q hq => if_neg hq
  have g1n : (ag_up g a (.inr (11, [Value.ref 1, Value.int (Int32.ofNat 0), Value.int md].set 2 (.int (md + Int32.ofInt 1))))).1 = g.1 := rfl
  have g1s : (ag_up g a (.inr (11, [Value.ref 1, Value.int (Int32.ofNat 0), Value.int md].set 2 (.int (md + Int32.ofInt 1))))).2.1 = g.2.1 := rfl
  generalize ag_up g a (.inr (11, [Value.ref 1, Value.int (Int32.ofNat 0), Value.int md].set 2 (.int (md + Int32.ofInt 1)))) = g1 at e1 f1 g1e g1n g1s ⊢
  rw [pu_gr (k := 0) e1 rfl, Option.bind_some, pu_gi (k := 1) e1 rfl, Option.bind_some, pu_rc e1, Option.bind_some]
  unfold fn_AL_add2 fn_AL_add2_0
  rw [show ag_le g1 (some 1) = some 0 from rfl, Option.bind_some, if_pos (show Int32.ofNat 0 = 0 from rfl), pu_rc e1, Option.bind_some]
  unfold fn_AL_grow fn_AL_grow_0
  rw [pu_gi (k := 1) e1 rfl, Option.bind_some, pu_rc e1, Option.bind_some]
  unfold fn_AL_grow2 fn_AL_grow2_0
  rw [pu_gr (k := 0) e1 rfl, Option.bind_some, show ag_le g1 (some 1) = some 0 from rfl, Option.bind_some, if_neg (by decide), Option.bind_some, if_pos (by decide), if_pos rfl]
  have em : (if (Int8.ofInt (10)).toInt32 < Int32.ofNat 0 + Int32.ofInt 1 then Int32.ofNat 0 + Int32.ofInt 1 else (Int8.ofInt (10)).toInt32) = Int32.ofNat 10 := by decide
  rw [em, n_nat (by omega), if_pos ⟨by decide, by decide, by omega, by omega⟩]
  have e2 : ag_at (ag_nw g1 10 (.inl (4, 10, .inr (.inr (.inr (.inr (fun _ => none))))))) (.ref a) = _ := pu_nw_old e1
  rw [pu_pf e2 (Nat.le_of_ble_eq_true rfl) rfl rfl, Option.bind_some, Option.bind_some, Option.bind_some]
  unfold fn_AL_add2_11
  have hna : g1.1 ≠ a := by omega
  have hnb : b ≠ g1.1 := by omega
  have e3 : ag_at (ag_up (ag_nw g1 10 (.inl (4, 10, .inr (.inr (.inr (.inr (fun _ => none))))))) a (.inr (11, [Value.ref 1, Value.int (Int32.ofNat 0), Value.int (md + Int32.ofInt 1)].set 0 (.ref g1.1)))) (.ref g1.1) = some (.inl (4, 10, .inr (.inr (.inr (.inr (fun _ => none)))))) := (pu_up_ne _ hna).trans (pu_nw_new (by omega))
  have f3 : ag_at (ag_up (ag_nw g1 10 (.inl (4, 10, .inr (.inr (.inr (.inr (fun _ => none))))))) a (.inr (11, [Value.ref 1, Value.int (Int32.ofNat 0), Value.int (md + Int32.ofInt 1)].set 0 (.ref g1.1)))) (.ref b) = some (.inr (ci, fs)) := (pu_up_ne _ hab).trans (pu_nw_old f1)
  have a3' : ag_at (ag_up (ag_nw g1 10 (.inl (4, 10, .inr (.inr (.inr (.inr (fun _ => none))))))) a (.inr (11, [Value.ref 1, Value.int (Int32.ofNat 0), Value.int (md + Int32.ofInt 1)].set 0 (.ref g1.1)))) (.ref a) = some (.inr (11, [.ref g1.1, .int (Int32.ofNat 0), .int (md + Int32.ofInt 1)])) := pu_up_eq _ e2
  have g3e : ∀ q, q ≠ a → q ≠ g1.1 → (ag_up (ag_nw g1 10 (.inl (4, 10, .inr (.inr (.inr (.inr (fun _ => none))))))) a (.inr (11, [Value.ref 1, Value.int (Int32.ofNat 0), Value.int (md + Int32.ofInt 1)].set 0 (.ref g1.1)))).2.2 q = g.2.2 q := fun q hq hq2 => (if_neg hq).trans ((if_neg hq2).trans (g1e q hq))
  have g3n : (ag_up (ag_nw g1 10 (.inl (4, 10, .inr (.inr (.inr (.inr (fun _ => none))))))) a (.inr (11, [Value.ref 1, Value.int (Int32.ofNat 0), Value.int (md + Int32.ofInt 1)].set 0 (.ref g1.1)))).1 = g1.1 + 1 := rfl
  have g3s : (ag_up (ag_nw g1 10 (.inl (4, 10, .inr (.inr (.inr (.inr (fun _ => none))))))) a (.inr (11, [Value.ref 1, Value.int (Int32.ofNat 0), Value.int (md + Int32.ofInt 1)].set 0 (.ref g1.1)))).2.1 = g1.2.1 + 10 := rfl
  dsimp only
  generalize ag_up (ag_nw g1 10 (.inl (4, 10, .inr (.inr (.inr (.inr (fun _ => none))))))) a (.inr (11, [Value.ref 1, Value.int (Int32.ofNat 0), Value.int (md + Int32.ofInt 1)].set 0 (.ref g1.1))) = g3 at e3 f3 a3' g3e g3n g3s ⊢
  rw [pu_as e3 (by decide) f3 hc, Option.bind_some]
  have a4' := (pu_up_ne (.inl (4, 10, .inr (.inr (.inr (.inr (va_up (fun _ => none) (Int32.ofNat 0).toNatClampNeg (some b))))))) (Ne.symm hna)).trans a3'
  rw [pu_pf a4' (Nat.le_of_ble_eq_true rfl) rfl rfl, Option.bind_some, Option.bind_some, if_pos n_b1]
  refine ⟨_, rfl, by show g3.1 = _; omega, by show g3.2.1 = _; omega, ?_, ?_, ?_⟩
  · refine (if_pos rfl).trans ?_
    rw [g1n]; rfl
  · rw [← g1n]
    refine (if_neg hna).trans ((if_pos rfl).trans ?_)
    rfl
  · intro q h1 h2
    rw [← g1n] at h2
    exact (if_neg h1).trans ((if_neg h2).trans (g3e q h1 h2))
/-- a further element where there is room -/
theorem al_add1 {e n0 k : Nat} {f : Nat → Option Nat} (ea : ag_at g (.ref a) = some (.inr (11, [.ref e, .int (Int32.ofNat k), .int md]))) (ee : ag_at g (.ref e) = some (.inl (4, n0, .inr (.inr (.inr (.inr f)))))) (hk : k < n0) (hn : n0 < 2147483648) (hb : ag_at g (.ref b) = some (.inr (ci, fs))) (hc : ci ≤ 10) :
    ∃ g', fn_AL_add N C a (some b) g = some (Int32.ofInt 1, g') ∧ up2 g g' a (.inr (11, [.ref e, .int (Int32.ofNat (k + 1)), .int (md + Int32.ofInt 1)])) e (.inl (4, n0, .inr (.inr (.inr (.inr (va_up f k (some b))))))) 0 0 := by
  obtain ⟨a2, a3, a4⟩ := pu_inv ea
  obtain ⟨b2, b3, b4⟩ := pu_inv hb
  have hab : b ≠ a := by
    rintro rfl
    rw [ea] at hb
    cases hb
    omega
  have hae : e ≠ a := by
    rintro rfl
    rw [ea] at ee
    cases ee
  unfold fn_AL_add fn_AL_add_0
  rw [pu_gi (k := 2) ea rfl, Option.bind_some, pu_pf ea (Nat.le_of_ble_eq_true rfl) rfl rfl, Option.bind_some]
  have e1 : ag_at (ag_up g a (.inr (11, [Value.ref e, Value.int (Int32.ofNat k), Value.int md].set 2 (.int (md + Int32.ofInt 1))))) (.ref a) = some (.inr (11, [.ref e, .int (Int32.ofNat k), .int (md + Int32.ofInt 1)])) := pu_up_eq _ ea
  have f1 : ag_at (ag_up g a (.inr (11, [Value.ref e, Value.int (Int32.ofNat k), Value.int md].set 2 (.int (md + Int32.ofInt 1))))) (.ref b) = some (.inr (ci, fs)) := (pu_up_ne _ hab).trans hb
  have h1 : ag_at (ag_up g a (.inr (11, [Value.ref e, Value.int (Int32.ofNat k), Value.int md].set 2 (.int (md + Int32.ofInt 1))))) (.ref e) = _ := (pu_up_ne _ hae).trans ee
  have g1e : ∀ q, q ≠ a → (ag_up g a (.inr (11, [Value.ref e, Value.int (Int32.ofNat k), Value.int md].set 2 (.int (md + Int32.ofInt 1))))).2.2 q = g.2.2 q := fun q hq => if_neg hq
  have g1n : (ag_up g a (.inr (11, [Value.ref e, Value.int (Int32.ofNat k), Value.int md].set 2 (.int (md + Int32.ofInt 1))))).1 = g.1 := rfl
  have g1s : (ag_up g a (.inr (11, [Value.ref e, Value.int (Int32.ofNat k), Value.int md].set 2 (.int (md + Int32.ofInt 1))))).2.1 = g.2.1 := rfl
  generalize ag_up g a (.inr (11, [Value.ref e, Value.int (Int32.ofNat k), Value.int md].set 2 (.int (md + Int32.ofInt 1)))) = g1 at e1 f1 h1 g1e g1n g1s ⊢
  rw [pu_gr (k := 0) e1 rfl, Option.bind_some, pu_gi (k := 1) e1 rfl, Option.bind_some, pu_rc e1, Option.bind_some]
  unfold fn_AL_add2 fn_AL_add2_0
  rw [pu_le h1 (by decide), Option.bind_some, if_neg (n_eqF (by omega) (by omega) (by omega))]
  unfold fn_AL_add2_11
  rw [pu_as h1 (by rw [n_in (by omega)]; exact hk) f1 hc, Option.bind_some, n_nat (by omega)]
  have a4' := (pu_up_ne (.inl (4, n0, .inr (.inr (.inr (.inr (va_up f k (some b))))))) (Ne.symm hae)).trans e1
  rw [pu_pf a4' (Nat.le_of_ble_eq_true rfl) rfl rfl, Option.bind_some, Option.bind_some, if_pos n_b1]
  refine ⟨_, rfl, by show g1.1 = _; omega, by show g1.2.1 = _; omega, ?_, ?_, ?_⟩
  · refine (if_pos rfl).trans ?_
    rw [n_1, n_add]; rfl
  · exact (if_neg hae).trans (if_pos rfl)
  · intro q h1 h2
    exact (if_neg h1).trans ((if_neg h2).trans (g1e q h1))
/-- an element -/
theorem al_get {e n0 k i : Nat} {v : Nat → Option Nat} (ea : ag_at g (.ref a) = some (.inr (11, [.ref e, .int (Int32.ofNat k), .int md]))) (ee : ag_at g (.ref e) = some (.inl (4, n0, .inr (.inr (.inr (.inr v)))))) (hi : i < k) (hk : k ≤ n0) (hn : n0 < 2147483648) : fn_AL_get N C a (Int32.ofNat i) g = some (v i, g) := by
  unfold fn_AL_get fn_AL_get_0 fn_Ob_checkIndex fn_Ob_checkIndex_0 fn_Pr_checkIndex fn_Pr_checkIndex_0
  rw [pu_gi (k := 1) ea rfl, Option.bind_some, if_neg (n_nn (by omega)), if_pos (n_ltT hi (by omega)), Option.bind_some, Option.bind_some, pu_rc ea, Option.bind_some]
  unfold fn_AL_elementData fn_AL_elementData_0
  rw [pu_gr (k := 0) ea rfl, Option.bind_some, pu_ao ee, Option.bind_some, if_pos (by rw [n_in (by omega)]; show i < n0; omega), n_nat (by omega)]
  rfl
end ALS
