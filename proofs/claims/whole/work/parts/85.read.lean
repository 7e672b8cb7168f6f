/-! ### A line is read -/
theorem g_t_s {c : Nat → Nat} {n p : Nat} (hp : p ≤ n) (x : Nat) : g_t c n (g_s c n p) x = g_t c n p x := by
  unfold g_t; rw [g_h_s hp, g_s_s hp]
theorem pu_up_up (g : ag_H) (a : Nat) (x y : ag_C) : ag_up (ag_up g a x) a y = ag_up g a y := by
  refine rs_ext rfl rfl fun q => ?_
  show (if q = a then y else if q = a then x else g.2.2 q) = (if q = a then y else g.2.2 q)
  by_cases e : q = a
  · rw [if_pos e, if_pos e]
  · rw [if_neg e, if_neg e, if_neg e]
theorem rf_nar (r : Option Nat) (ty : FieldType) : narrow ty (ag_rf r) = ag_rf r := by
  cases r <;> cases ty <;> rfl
theorem rf_fit1 (r : Option Nat) (s : String) : fits (.object s) (ag_rf r) = true := by cases r <;> rfl
theorem rf_fit2 (r : Option Nat) (t : FieldType) : fits (.array t) (ag_rf r) = true := by cases r <;> rfl
theorem c_clinit {N : Nat} {C : Nat × Nat} {g : ag_H} {a : Nat} {v0 v1 v2 v3 v4 : Value} (ea : ag_at g (.ref a) = some (.inr (7, [v0, v1, v2, v3, v4]))) {x1 x2 : Int32} (h2 : md_01 x2 = true) (x3 x4 x5 : Option Nat) :
    fn_Cl_init N C a x1 x2 x3 x4 x5 g = some (0, ag_up g a (.inr (7, [.int x1, .int x2, ag_rf x3, ag_rf x4, ag_rf x5]))) := by
  unfold fn_Cl_init fn_Cl_init_0
  rw [pu_pf ea (Nat.le_of_ble_eq_true rfl) rfl rfl, Option.bind_some, pu_pf (pu_up_eq _ ea) (Nat.le_of_ble_eq_true rfl) (md_01n h2) h2, Option.bind_some, pu_up_up, pu_pf (pu_up_eq _ ea) (Nat.le_of_ble_eq_true rfl) (rf_nar _ _) (rf_fit1 _ _), Option.bind_some, pu_up_up, pu_pf (pu_up_eq _ ea) (Nat.le_of_ble_eq_true rfl) (rf_nar _ _) (rf_fit1 _ _), Option.bind_some, pu_up_up, pu_pf (pu_up_eq _ ea) (Nat.le_of_ble_eq_true rfl) (rf_nar _ _) (rf_fit2 _ _), Option.bind_some, pu_up_up]
  rfl
def hd_rep (P : Nat → Prop) (g : ag_H) (r : Option Nat) (x : Option g_A) : Prop := match x with
  | none => r = none
  | some y => ∃ b, r = some b ∧ at_rep P g b y
def cl_rep (P : Nat → Prop) (g : ag_H) (a : Nat) (x : g_Cl) : Prop := P a ∧ 2 ≤ a ∧ a < g.1 ∧ ∃ (r : Option Nat) (bl sa : Nat) (sv : Nat → Int32),
  g.2.2 a = .inr (7, [.int (Int32.ofNat x.1), .int (if x.2.1 = true then Int32.ofInt 1 else Int32.ofInt 0), ag_rf r, .ref bl, .ref sa]) ∧ hd_rep P g r x.2.2.1 ∧ al_rep P (at_rep P g) g bl x.2.2.2.1 ∧
  P sa ∧ 2 ≤ sa ∧ sa < g.1 ∧ g.2.2 sa = .inl (0, x.2.2.2.2.length, .inl sv) ∧ st_rep sv x.2.2.2.2
section RD
variable {N : Nat} {C : Nat × Nat} {h : ag_H} {n p k : Nat} {nv bv : Int32} {st : Nat → Int32} {c : Nat → Nat} {f : Nat → Int32}
theorem c_copy3 (o : rs_ok c f n h) {j : Nat} (hj : j < 40) (hC1 : h.1 + 1 ≤ C.1) (hC2 : h.2.1 + j ≤ C.2) : fn_Ar_copyOf3 N C (some 6) (Int32.ofNat j) (rs h n p k nv bv st) = some (some h.1, rs (ag_nw h j (.inl (0, j, .inl (va_cpy st (fun _ => 0) 0 0 j)))) n p k nv bv st) := by
  have o1 := o.1
  unfold fn_Ar_copyOf3 fn_Ar_copyOf3_0
  rw [pu_le (rs_at6 o) (by decide), Option.bind_some, if_neg (n_eqF (a := j) (b := 40) (by omega) (by omega) (by omega)), n_nat (by omega), if_pos ⟨n_nn (by omega), by omega, hC1, hC2⟩, rs_nw o]
  have o2 := rs_oknw (m := j) (x := .inl (0, j, .inl (fun _ => 0))) o
  have e6 := rs_at6 (p := p) (k := k) (nv := nv) (bv := bv) (st := st) o2
  have en : ag_at (rs (ag_nw h j (.inl (0, j, .inl (fun _ => 0)))) n p k nv bv st) (.ref h.1) = some (.inl (0, j, .inl (fun _ => 0))) := pu_at (by omega) (show h.1 < h.1 + 1 by omega) ((rs_big (by omega) (by omega) (by omega)).trans (if_pos rfl))
  rw [pu_le e6 (by decide), Option.bind_some, if_pos (n_ltT (a := j) (b := 40) hj (by omega))]
  unfold ag_cpi
  rw [pu_ai e6, Option.bind_some]
  show ((ag_ai _ 0 (some h.1)).bind _).bind _ = _
  rw [pu_ai en, Option.bind_some, n_0, n_nat (show j < 2147483648 by omega), n_nat (show 0 < 2147483648 by omega), if_pos ⟨n_nn (by omega), n_nn (by omega), n_nn (by omega), by show 0 + j ≤ 40; omega, by show 0 + j ≤ j; omega⟩, Option.bind_some]
  show some (some h.1, ag_up _ h.1 _) = _
  rw [rs_up (by omega), pu_up_nw]
theorem c_rd108 (o : rs_ok c f n h) (hN : 42 ≤ N) (hp : p ≤ n) (hk : k < 40) (hC1 : h.1 + 2 ≤ C.1) (hC2 : h.2.1 + 50 ≤ C.2) {kk : Nat} {s0 : Int32} (hs0 : md_01 s0 = true) (r : Option Nat) (bl : Nat) :
    (g_h c n p = 0 ∧ nv &&& (bv ^^^ (Int32.ofInt (-1))) = 0 → fn_Rd_read_108 N C 5 (some 3) r (Int32.ofNat kk) (some bl) s0 (rs h n p k nv bv st) = some (some h.1, rs (ag_up (ag_nw (ag_nw h 5 (.inr (7, [.int 0, .int 0, .null, .null, .null]))) k (.inl (0, k, .inl (va_cpy st (fun _ => 0) 0 0 k)))) h.1 (.inr (7, [.int (Int32.ofNat kk), .int s0, ag_rf r, .ref bl, .ref (h.1 + 1)]))) n (g_s c n p) k nv bv st)) ∧
    (¬ (g_h c n p = 0 ∧ nv &&& (bv ^^^ (Int32.ofInt (-1))) = 0) → fn_Rd_read_108 N C 5 (some 3) r (Int32.ofNat kk) (some bl) s0 (rs h n p k nv bv st) = some (none, rs h n (g_s c n p) k nv bv st)) := by
  have o1 := o.1
  have hh := g_h_le o p
  unfold fn_Rd_read_108 fn_Rd_read_131
  rw [rs_rc3 o, Option.bind_some, c_sign o hN hp, Option.bind_some]
  dsimp only
  by_cases e1 : g_h c n p = 0
  · rw [if_pos (show Int32.ofNat (g_h c n p) = 0 by rw [e1]; rfl), rs_nv o, Option.bind_some, rs_bv o, Option.bind_some]
    by_cases e2 : nv &&& (bv ^^^ (Int32.ofInt (-1))) = 0
    · refine ⟨fun _ => ?_, fun q => absurd ⟨e1, e2⟩ q⟩
      rw [if_pos e2, if_pos ⟨by show h.1 + 1 ≤ C.1; omega, by show h.2.1 + 5 ≤ C.2; omega⟩, rs_nw o]
      have o2 := rs_oknw (m := 5) (x := .inr (7, [.int 0, .int 0, .null, .null, .null])) o
      rw [rs_stp o2, Option.bind_some, rs_k o2, Option.bind_some, c_copy3 o2 hk (by show h.1 + 1 + 1 ≤ C.1; omega) (by show h.2.1 + 5 + k ≤ C.2; omega), Option.bind_some]
      have ea : ag_at (rs (ag_nw (ag_nw h 5 (.inr (7, [.int 0, .int 0, .null, .null, .null]))) k (.inl (0, k, .inl (va_cpy st (fun _ => 0) 0 0 k)))) n (g_s c n p) k nv bv st) (.ref h.1) = some (.inr (7, [.int 0, .int 0, .null, .null, .null])) := by
        refine pu_at (by omega) (show h.1 < h.1 + 1 + 1 by omega) ((rs_big (by omega) (by omega) (by omega)).trans ((if_neg (show h.1 ≠ h.1 + 1 by omega)).trans (if_pos rfl)))
      dsimp only
      rw [show (rs h n (g_s c n p) k nv bv st).1 = h.1 from rfl, c_clinit ea hs0, Option.bind_some, rs_up (by omega)]
      rfl
    · exact ⟨fun q => absurd q.2 e2, fun _ => if_neg e2⟩
  · exact ⟨fun q => absurd q.1 e1, fun _ => if_neg (n_ne0 (by omega) (by omega))⟩
theorem c_kind (o : rs_ok c f n h) (hN : 42 ≤ N) (hp : p ≤ n) : fn_Rd_readKind N C (some 3) (rs h n p k nv bv st) =
    if g_h c n p = 63 then some (Int32.ofNat 2, rs h n (g_s c n p + 1) k nv bv st) else if g_h c n p = 33 then some (Int32.ofNat 3, rs h n (g_s c n p + 1) k nv bv st) else if g_h c n p = 43 then some (Int32.ofNat 4, rs h n (g_s c n p + 1) k nv bv st) else if g_h c n p = 45 then some (Int32.ofNat 5, rs h n (g_s c n p + 1) k nv bv st) else some (Int32.ofNat 0, rs h n (g_s c n p) k nv bv st) := by
  have hs := g_s_le (c := c) hp
  unfold fn_Rd_readKind fn_Rd_readKind_0 fn_Rd_readKind_47
  rw [rs_rc3 o, Option.bind_some, n_c63, n_c33, n_c43, n_c45, c_takes o hN hp (by omega)]
  have tk : ∀ x, x < 2147483648 → fn_Ln_takes N C 3 (Int32.ofNat x) (rs h n (g_s c n p) k nv bv st) = if g_h c n p = x then some (Int32.ofInt 1, rs h n (g_s c n p + 1) k nv bv st) else some (Int32.ofInt 0, rs h n (g_s c n p) k nv bv st) := by
    intro x hx
    rw [c_takes o hN hs.2 hx, g_t_s hp, g_s_s hp]
    unfold g_t
    by_cases e : g_h c n p = x
    · rw [if_pos e, if_pos e]
    · rw [if_neg e, if_neg e]
  unfold g_t
  by_cases e1 : g_h c n p = 63
  · simp only [if_pos e1, Option.bind_some, if_neg n_ne10]; rfl
  · simp only [if_neg e1, Option.bind_some, n_e00, if_true, rs_rc3 o, tk 33 (by omega)]
    by_cases e2 : g_h c n p = 33
    · simp only [if_pos e2, Option.bind_some, if_neg n_ne10]; rfl
    · simp only [if_neg e2, Option.bind_some, n_e00, if_true, rs_rc3 o, tk 43 (by omega)]
      by_cases e3 : g_h c n p = 43
      · simp only [if_pos e3, Option.bind_some, if_neg n_ne10]; rfl
      · simp only [if_neg e3, Option.bind_some, n_e00, if_true, rs_rc3 o, tk 45 (by omega)]
        by_cases e4 : g_h c n p = 45
        · simp only [if_pos e4, Option.bind_some, if_neg n_ne10]; rfl
        · simp only [if_neg e4, Option.bind_some, n_e00, if_true]; rfl
end RD
