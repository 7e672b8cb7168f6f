/-! ### Atoms -/
theorem i_toInt {a : Int} (h1 : -2147483648 ≤ a) (h2 : a < 2147483648) : (Int32.ofInt a).toInt = a := Int32.toInt_ofInt_of_le (by simpa using h1) (by simpa using h2)
theorem i_lt {a b : Int} (h1 : -2147483648 ≤ a) (h2 : a < 2147483648) (h3 : -2147483648 ≤ b) (h4 : b < 2147483648) : (Int32.ofInt a < Int32.ofInt b) = (a < b) := propext (by
  rw [Int32.lt_iff_toInt_lt, i_toInt h1 h2, i_toInt h3 h4])
theorem i_le {a b : Int} (h1 : -2147483648 ≤ a) (h2 : a < 2147483648) (h3 : -2147483648 ≤ b) (h4 : b < 2147483648) : (Int32.ofInt a ≤ Int32.ofInt b) = (a ≤ b) := propext (by
  rw [Int32.le_iff_toInt_le, i_toInt h1 h2, i_toInt h3 h4])
theorem i_eq {a b : Int} (h1 : -2147483648 ≤ a) (h2 : a < 2147483648) (h3 : -2147483648 ≤ b) (h4 : b < 2147483648) : (Int32.ofInt a = Int32.ofInt b) = (a = b) := propext (by
  constructor
  · intro h
    have := congrArg Int32.toInt h
    rwa [i_toInt h1 h2, i_toInt h3 h4] at this
  · intro h; rw [h])
def at_cell (a : g_A) : ag_C := .inr (6, [.int (Int32.ofNat a.1), .int (Int32.ofNat a.2.1), .int (Int32.ofInt a.2.2.1), .int (Int32.ofInt a.2.2.2)])
theorem pu_up_nw (g : ag_H) (m : Nat) (x y : ag_C) : ag_up (ag_nw g m x) g.1 y = ag_nw g m y := by
  refine rs_ext rfl rfl fun q => ?_
  show (if q = g.1 then y else if q = g.1 then x else g.2.2 q) = (if q = g.1 then y else g.2.2 q)
  by_cases e : q = g.1
  · rw [if_pos e, if_pos e]
  · rw [if_neg e, if_neg e, if_neg e]
theorem c_atinit (N : Nat) (C : Nat × Nat) (g : ag_H) (hg : 2 ≤ g.1) (x1 x2 x3 x4 : Int32) : fn_At_init N C g.1 x1 x2 x3 x4 (ag_nw g 4 (.inr (6, [.int 0, .int 0, .int 0, .int 0]))) = some (0, ag_nw g 4 (.inr (6, [.int x1, .int x2, .int x3, .int x4]))) := by
  unfold fn_At_init fn_At_init_0
  rw [pu_pf (pu_nw_new hg) (Nat.le_of_ble_eq_true rfl) rfl rfl, Option.bind_some, pu_up_nw, pu_pf (pu_nw_new hg) (Nat.le_of_ble_eq_true rfl) rfl rfl, Option.bind_some, pu_up_nw, pu_pf (pu_nw_new hg) (Nat.le_of_ble_eq_true rfl) rfl rfl, Option.bind_some, pu_up_nw, pu_pf (pu_nw_new hg) (Nat.le_of_ble_eq_true rfl) rfl rfl, Option.bind_some, pu_up_nw]
  rfl
theorem g_at_ok {c : Nat → Nat} {n p q : Nat} {a : g_A} (hp : p ≤ n) (e : g_at c n p = some (a, q)) : p < q ∧ q ≤ n ∧ a.1 < 26 ∧ a.2.1 ≤ 2 ∧ ((-9999 ≤ a.2.2.1 ∧ a.2.2.1 ≤ 9999) ∨ (1048576 ≤ a.2.2.1 ∧ a.2.2.1 ≤ 1048583)) ∧ ((-9999 ≤ a.2.2.2 ∧ a.2.2.2 ≤ 9999) ∨ (1048576 ≤ a.2.2.2 ∧ a.2.2.2 ≤ 1048583)) := by
  unfold g_at at e
  split at e
  · next h =>
    have hlt := g_h_lt (c := c) (n := n) (p := p) (by omega)
    have hs := g_s_le (c := c) hp
    have hs1 := g_s_le (c := c) (n := n) (p := g_s c n p + 1) (by omega)
    split at e
    · cases e
      exact ⟨by omega, by omega, by show g_h c n p - 97 < 26; omega, Nat.zero_le _, Or.inl (show (-9999 : Int) ≤ 0 ∧ (0 : Int) ≤ 9999 by decide), Or.inl (show (-9999 : Int) ≤ 0 ∧ (0 : Int) ≤ 9999 by decide)⟩
    · next p1 e1 =>
      have h1 := g_t_ok (show g_s c n p + 1 ≤ n by omega) (by decide) e1
      obtain ⟨r1, er1, e⟩ := md_bd e
      have h2 := g_tm_ok (show p1 ≤ n by omega) (show _ = some (r1.1, r1.2) from er1)
      split at e
      · next p3 e3 =>
        have h3 := g_t_ok (show r1.2 ≤ n by omega) (by decide) e3
        cases e
        exact ⟨by omega, by omega, by show g_h c n p - 97 < 26; omega, show 1 ≤ 2 by omega, h2.1, Or.inl (show (-9999 : Int) ≤ 0 ∧ (0 : Int) ≤ 9999 by decide)⟩
      · obtain ⟨p3, e3, e⟩ := md_bd e
        obtain ⟨r2, er2, e⟩ := md_bd e
        obtain ⟨p5, e5, e⟩ := md_bd e
        have h3 := g_t_ok (show r1.2 ≤ n by omega) (by decide) e3
        have h4 := g_tm_ok (show p3 ≤ n by omega) (show _ = some (r2.1, r2.2) from er2)
        have h5 := g_t_ok (show r2.2 ≤ n by omega) (by decide) e5
        cases e
        exact ⟨by omega, by omega, by show g_h c n p - 97 < 26; omega, Nat.le_refl _, h2.1, h4.1⟩
  · cases e
section ATM
variable {N : Nat} {C : Nat × Nat} {h : ag_H} {n p k : Nat} {nv bv : Int32} {st : Nat → Int32} {c : Nat → Nat} {f : Nat → Int32}
/-- an atom is made -/
theorem c_mkat (o : rs_ok c f n h) (hC1 : h.1 + 1 ≤ C.1) (hC2 : h.2.1 + 4 ≤ C.2) (x1 x2 x3 x4 : Int32) {α : Type} (F : Int32 × ag_H → Option α) :
    (if (rs h n p k nv bv st).1 + 1 ≤ C.1 ∧ (rs h n p k nv bv st).2.1 + 4 ≤ C.2 then (fn_At_init N C (rs h n p k nv bv st).1 x1 x2 x3 x4 (ag_nw (rs h n p k nv bv st) 4 (.inr (6, [.int 0, .int 0, .int 0, .int 0])))).bind F else none) = F (0, rs (ag_nw h 4 (.inr (6, [.int x1, .int x2, .int x3, .int x4]))) n p k nv bv st) := by
  rw [if_pos ⟨hC1, hC2⟩, c_atinit N C (rs h n p k nv bv st) (show 2 ≤ h.1 by have := o.1; omega), Option.bind_some, rs_nw o]
theorem c_at102 (o : rs_ok c f n h) (hN : 42 ≤ N) (hp : p ≤ n) (hC1 : h.1 + 1 ≤ C.1) (hC2 : h.2.1 + 4 ≤ C.2) {x2 x3 x4 : Int32} (hx : ¬ x4 = -1048576) : match g_t c n p 41 with
    | some q => fn_Rd_readAtom_102 N C (some 3) x2 x3 x4 (rs h n p k nv bv st) = some (some h.1, rs (ag_nw h 4 (.inr (6, [.int x2, .int (Int32.ofInt 2), .int x3, .int x4]))) n q k nv bv st)
    | none => fn_Rd_readAtom_102 N C (some 3) x2 x3 x4 (rs h n p k nv bv st) = some (none, rs h n (g_s c n p) k nv bv st) := by
  unfold fn_Rd_readAtom_102 fn_Rd_readAtom_135 fn_Rd_readAtom_136
  rw [if_neg hx, rs_rc3 o, Option.bind_some, n_c41, c_takes o hN hp (by omega)]
  cases e : g_t c n p 41 with
  | none => rfl
  | some q =>
    simp only [Option.bind_some, if_neg n_ne10]
    exact c_mkat o hC1 hC2 _ _ _ _ _
theorem c_atom (o : rs_ok c f n h) (hN : 42 ≤ N) (hp : p ≤ n) (hC1 : h.1 + 1 ≤ C.1) (hC2 : h.2.1 + 4 ≤ C.2) : match g_at c n p with
    | some r => fn_Rd_readAtom N C (some 3) (rs h n p k nv bv st) = some (some h.1, rs (ag_nw h 4 (at_cell r.1)) n r.2 k nv bv st)
    | none => ∃ q, q ≤ n ∧ fn_Rd_readAtom N C (some 3) (rs h n p k nv bv st) = some (none, rs h n q k nv bv st) := by
  have hs := g_s_le (c := c) hp
  have hh := g_h_le o p
  unfold fn_Rd_readAtom fn_Rd_readAtom_0
  rw [rs_rc3 o, Option.bind_some, c_sign o hN hp, Option.bind_some]
  simp only [c_isName _ hh, Option.bind_some]
  unfold g_at
  by_cases e1 : 97 ≤ g_h c n p ∧ g_h c n p ≤ 122
  · have hlt := g_h_lt (c := c) (n := n) (p := p) (by omega)
    simp only [if_pos e1, if_neg n_ne10]
    rw [rs_pos o, Option.bind_some, n_1, n_add, rs_pp o, Option.bind_some, rs_rc3 o, Option.bind_some, n_c40, c_takes o hN (show g_s c n p + 1 ≤ n by omega) (by omega), n_c97, n_sub e1.1]
    have hs1 := g_s_le (c := c) (n := n) (p := g_s c n p + 1) (by omega)
    cases e2 : g_t c n (g_s c n p + 1) 40 with
    | none =>
      simp only [Option.bind_some, n_e00, if_true]
      exact c_mkat o hC1 hC2 _ _ _ _ _
    | some p1 =>
      have h1 := g_t_ok (show g_s c n p + 1 ≤ n by omega) (by decide) e2
      simp only [Option.bind_some, if_neg n_ne10]
      have k1 := c_term (C := C) (k := k) (nv := nv) (bv := bv) (st := st) o hN h1.2
      cases e3 : g_tm c n p1 with
      | none =>
        rw [e3] at k1
        obtain ⟨q, hq, k1⟩ := k1
        simp only [k1, Option.bind_some, Option.bind_none]
        exact ⟨q, hq, if_pos trivial⟩
      | some r1 =>
        rw [e3] at k1
        have h2 := g_tm_ok h1.2 (show _ = some (r1.1, r1.2) from e3)
        have hne : ¬ Int32.ofInt r1.1 = -1048576 := by
          rw [show (-1048576 : Int32) = Int32.ofInt (-1048576) from rfl, i_eq (by omega) (by omega) (by omega) (by omega)]
          omega
        simp only at k1
        simp only [k1, Option.bind_some]
        rw [if_neg hne, rs_rc3 o, Option.bind_some, n_c41, c_takes o hN h2.2.2 (by omega)]
        have hs2 := g_s_le (c := c) h2.2.2
        cases e4 : g_t c n r1.2 41 with
        | some p3 =>
          simp only [Option.bind_some, if_neg n_ne10]
          exact c_mkat o hC1 hC2 _ _ _ _ _
        | none =>
          simp only [Option.bind_some, n_e00, if_true]
          rw [rs_rc3 o, Option.bind_some, n_c44, c_takes o hN hs2.2 (by omega)]
          have e44 : g_t c n (g_s c n r1.2) 44 = g_t c n r1.2 44 := by
            unfold g_t; rw [g_h_s h2.2.2, g_s_s h2.2.2]
          rw [e44]
          cases e5 : g_t c n r1.2 44 with
          | none =>
            simp only [Option.bind_some, Option.bind_none, if_true]
            refine ⟨_, hs2.2, ?_⟩
            unfold fn_Rd_readAtom_102
            rw [if_pos rfl, g_s_s h2.2.2]
            rfl
          | some p3 =>
            have h3 := g_t_ok h2.2.2 (by decide) e5
            simp only [Option.bind_some, if_neg n_ne10]
            have k2 := c_term (C := C) (k := k) (nv := nv) (bv := bv) (st := st) o hN h3.2
            cases e6 : g_tm c n p3 with
            | none =>
              rw [e6] at k2
              obtain ⟨q, hq, k2⟩ := k2
              simp only [k2, Option.bind_some, Option.bind_none]
              refine ⟨q, hq, ?_⟩
              unfold fn_Rd_readAtom_102
              rw [if_pos rfl]
              rfl
            | some r2 =>
              rw [e6] at k2
              have h4 := g_tm_ok h3.2 (show _ = some (r2.1, r2.2) from e6)
              have hne2 : ¬ Int32.ofInt r2.1 = -1048576 := by
                rw [show (-1048576 : Int32) = Int32.ofInt (-1048576) from rfl, i_eq (by omega) (by omega) (by omega) (by omega)]
                omega
              simp only at k2
              simp only [k2, Option.bind_some]
              have k3 := c_at102 (C := C) (k := k) (nv := nv) (bv := bv) (st := st) (x2 := Int32.ofNat (g_h c n p - 97)) (x3 := Int32.ofInt r1.1) o hN h4.2.2 hC1 hC2 hne2
              cases e7 : g_t c n r2.2 41 with
              | none =>
                rw [e7] at k3
                exact ⟨_, (g_s_le (c := c) h4.2.2).2, k3⟩
              | some p5 =>
                rw [e7] at k3
                exact k3
  · simp only [if_neg e1, n_e00, if_true]
    exact ⟨_, hs.2, rfl⟩
theorem c_bit (t : Int) (h1 : -2147483648 ≤ t) (h2 : t < 2147483648) : fn_At_bit N C (Int32.ofInt t) h = some (g_bit t, h) := by
  unfold fn_At_bit fn_At_bit_0 fn_At_bit_16 g_bit
  rw [show (1048576 : Int32) = Int32.ofInt 1048576 from rfl]
  simp only [i_lt h1 h2 (show (-2147483648 : Int) ≤ 1048576 by decide) (show (1048576 : Int) < 2147483648 by decide)]
  by_cases e : t < 1048576
  · rw [if_pos e, if_pos e]; rfl
  · rw [if_neg e, if_neg e]
theorem c_vars {a : Nat} {x : g_A} (e : ag_at h (.ref a) = some (at_cell x)) (h1 : -2147483648 ≤ x.2.2.1 ∧ x.2.2.1 < 2147483648) (h2 : -2147483648 ≤ x.2.2.2 ∧ x.2.2.2 < 2147483648) : fn_At_variables N C a h = some (g_vs x, h) := by
  unfold fn_At_variables fn_At_variables_0
  rw [pu_gi (k := 2) (show ag_at h (.ref a) = some (.inr (6, _)) from e) rfl, Option.bind_some, c_bit _ h1.1 h1.2, Option.bind_some]
  show ((ag_gi h (some a) 6 3).bind _) = _
  rw [pu_gi (k := 3) (show ag_at h (.ref a) = some (.inr (6, _)) from e) rfl, Option.bind_some, c_bit _ h2.1 h2.2, Option.bind_some]
  rfl
end ATM
