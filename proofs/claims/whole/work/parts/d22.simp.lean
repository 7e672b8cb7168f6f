/-! ### type, wipe, limits, latest, count, clear: both sides -/
def c_ret (F : Option (Int32 × ag_H)) (g : ag_H) (r : Int32) (I1 : (Nat → Nat) → ag_H → Prop) : Prop := ∃ g' ow', c_fr g g' 100 500 ∧ F = some (r, g') ∧ I1 ow' g'
def m_ret (F : Option (Int32 × MS)) (r : Int32) (I1 : MS → Prop) : Prop := ∃ S', F = some (r, S') ∧ I1 S'
theorem c_fr_self (g : ag_H) : c_fr g g 100 500 := ⟨Nat.le_refl _, by omega, Nat.le_refl _, by omega, rfl⟩
abbrev ty_no (x : Int32) (ln : Nat) : Prop := x < (Int8.ofInt (32)).toInt32 ∨ (Int8.ofInt (126)).toInt32 < x ∨ ¬ ln < 40
def s_ty (x : Int32) (lc : Nat → Nat) (ln : Nat) : Int32 × (Nat → Nat) × Nat := if ty_no x ln then (Int32.ofInt 0, lc, ln) else (Int32.ofInt 1, fun i => if i = ln then x.toNatClampNeg else lc i, ln + 1)
theorem ty_char : ∀ k : Nat, k < 127 → vp_nar .char (Int32.ofNat k) = Int32.ofNat k := by decide
theorem ty_nat {x : Int32} {ln : Nat} (h : ¬ ty_no x ln) : ∃ k, 32 ≤ k ∧ k ≤ 126 ∧ x = Int32.ofNat k ∧ ln < 40 := by
  have h1 : ¬ x < (Int8.ofInt (32)).toInt32 := fun q => h (Or.inl q)
  have h2 : ¬ (Int8.ofInt (126)).toInt32 < x := fun q => h (Or.inr (Or.inl q))
  have h3 : ln < 40 := Decidable.byContradiction fun q => h (Or.inr (Or.inr q))
  rw [n_c32] at h1
  rw [n_c126] at h2
  have h0 : ¬ x < 0 := fun q => h1 (by
    rw [Int32.lt_iff_toInt_lt] at q ⊢
    have e1 : (Int32.ofNat 32).toInt = 32 := by decide
    have e2 : (0 : Int32).toInt = 0 := by decide
    omega)
  have h4 := ag_nn2' h0
  have h5 : x.toNatClampNeg < 2147483648 := by
    have := ag_nn x h0
    have := Int32.toInt_lt x
    omega
  rw [h4] at h1 h2
  rw [n_lt h5 (by omega)] at h1
  rw [n_lt (by omega) h5] at h2
  exact ⟨_, by omega, by omega, h4, h3⟩
section SIM
variable {N : Nat} {C : Nat × Nat} {ow : Nat → Nat} {g : ag_H} {S : MS} {lc : Nat → Nat} {ln : Nat} {M : List g_Cl} {Bs : List (List g_Cl)} {D : List g_Cl} {Ts : List w_T} {K most more : Nat} {re : Int32} {rd : Nat} {un : Int32} {G Gs : List j_R}
/-- one of the cells 2, 3, 4 alone is changed -/
theorem cI_low {g' : ag_H} (hn : g'.1 = g.1) (hq : ∀ q, q ≠ 2 → q ≠ 3 → q ≠ 4 → g'.2.2 q = g.2.2 q) {lc' : Nat → Nat} {ln' K' most' more' : Nat} (hL : cL g' lc' ln') (hG : ∀ mk, cG g mk K most more → cG g' mk K' most' more') (h : cI ow g lc ln M Bs D Ts K most more re rd un Gs) : cI ow g' lc' ln' M Bs D Ts K' most' more' re rd un Gs := by
  obtain ⟨h1, -, ⟨kk, nv, bv, st, r1, r2⟩, hJ, hN, mk, hG1, hO⟩ := h
  exact ⟨by omega, hL, ⟨kk, nv, bv, st, (hq 5 (by omega) (by omega) (by omega)).trans r1, (hq 6 (by omega) (by omega) (by omega)).trans r2⟩, cJ_ext (fun q a b => hq q (by omega) (by omega) (by omega)) hJ, cN_ext (fun q a b => hq q (by omega) (by omega) (by omega)) hN, mk, hG mk hG1, cO_ext (by omega) (fun q h3 _ => by have := hO.1 q h3; exact hq q (by omega) (by omega) (by omega)) h1 hO⟩
theorem c_type (h : cI ow g lc ln M Bs D Ts K most more re rd un Gs) (hln : ln ≤ 40) (x : Int32) : c_ret (fn_GC_type N C 2 x g) g (s_ty x lc ln).1 (fun ow g => cI ow g (s_ty x lc ln).2.1 (s_ty x lc ln).2.2 M Bs D Ts K most more re rd un Gs) := by
  have h0 := h
  obtain ⟨h1, ⟨p, f, l1, l2, l3⟩, -, -, -, mk, hG, hO⟩ := h
  have e2 : ag_at g (.ref 2) = _ := pu_at (by omega) (by omega) hG
  have e3 : ag_at g (.ref 3) = _ := pu_at (by omega) (by omega) l1
  have e4 : ag_at g (.ref 4) = _ := pu_at (by omega) (by omega) l2
  unfold fn_GC_type fn_GC_type_0 s_ty
  rw [pu_gr (k := 0) e2 rfl, Option.bind_some, pu_rc e3, Option.bind_some]
  unfold fn_Ln_put fn_Ln_put_0
  by_cases c : ty_no x ln
  · rw [if_pos c]
    refine ⟨g, ow, c_fr_self g, ?_, h0⟩
    by_cases c1 : x < (Int8.ofInt (32)).toInt32
    · rw [if_pos c1]; rfl
    rw [if_neg c1]
    by_cases c2 : (Int8.ofInt (126)).toInt32 < x
    · rw [if_pos c2]; rfl
    have c3 : ¬ ln < 40 := by
      rcases c with c | c | c
      · exact absurd c c1
      · exact absurd c c2
      · exact c
    rw [if_neg c2, pu_gi (k := 1) e3 rfl, Option.bind_some, n_c40, if_neg (n_ltF (by omega) (by omega))]
    rfl
  · rw [if_neg c]
    have c1 : ¬ x < (Int8.ofInt (32)).toInt32 := fun q => c (Or.inl q)
    have c2 : ¬ (Int8.ofInt (126)).toInt32 < x := fun q => c (Or.inr (Or.inl q))
    obtain ⟨k, k1, k2, hx, k3⟩ := ty_nat c
    have hv : vp_nar .char x = x := by rw [hx]; exact ty_char k (by omega)
    have e3' := (pu_up_ne (h := g) (q := 4) (.inl (1, 40, .inl (upd f ln x))) (show (3 : Nat) ≠ 4 by decide)).trans e3
    refine ⟨ag_up (ag_up g 4 (.inl (1, 40, .inl (upd f ln x)))) 3 (.inr (1, [.ref 4, .int (Int32.ofNat (ln + 1)), .int p])), ow, ⟨Nat.le_refl _, Nat.le_add_right _ _, Nat.le_refl _, Nat.le_add_right _ _, rfl⟩, ?_, ?_⟩
    · rw [if_neg c1, if_neg c2, pu_gi (k := 1) e3 rfl, Option.bind_some, n_c40, if_pos (n_ltT (by omega) (by omega)), pu_gr (k := 0) e3 rfl, Option.bind_some, Option.bind_some, pu_ai e4, Option.bind_some, if_pos (show md_in (Int32.ofNat ln) 40 = true by rw [n_in (by omega)]; exact k3), n_nat (by omega), hv]
      show ((ag_gi (ag_up g 4 (.inl (1, 40, .inl (upd f ln x)))) (some 3) 1 1).bind _).bind _ = _
      rw [pu_gi (k := 1) e3' rfl, Option.bind_some, n_1, n_add]
      show ((ag_pf (ag_up g 4 (.inl (1, 40, .inl (upd f ln x)))) (ag_rf (some 3)) 1 1 .int (.int (Int32.ofNat (ln + 1)))).bind _).bind _ = _
      rw [pu_pf e3' (Nat.le_of_ble_eq_true rfl) rfl rfl, Option.bind_some]
      rfl
    · refine cI_low (g := g) (g' := ag_up (ag_up g 4 (.inl (1, 40, .inl (upd f ln x)))) 3 (.inr (1, [.ref 4, .int (Int32.ofNat (ln + 1)), .int p]))) rfl (fun q a b c => ?_) ⟨p, upd f ln x, rfl, rfl, fun i hi => ?_⟩ (fun mk hG => hG) h0
      · show (if q = 3 then _ else if q = 4 then _ else g.2.2 q) = g.2.2 q
        rw [if_neg b, if_neg c]
      · show upd f ln x i = Int32.ofNat (if i = ln then x.toNatClampNeg else lc i)
        by_cases e : i = ln
        · rw [if_pos e, e, upd_eq, hx, n_nat (by omega)]
        · rw [if_neg e, upd_ne e]
          have hi : i < ln + 1 := hi
          exact l3 i (by omega)
theorem c_wipe (h : cI ow g lc ln M Bs D Ts K most more re rd un Gs) : c_ret (fn_GC_wipe N C 2 g) g 0 (fun ow g => cI ow g lc 0 M Bs D Ts K most more re rd un Gs) := by
  have h0 := h
  obtain ⟨h1, ⟨p, f, l1, l2, l3⟩, -, -, -, mk, hG, hO⟩ := h
  have e2 : ag_at g (.ref 2) = _ := pu_at (by omega) (by omega) hG
  have e3 : ag_at g (.ref 3) = _ := pu_at (by omega) (by omega) l1
  refine ⟨ag_up g 3 (.inr (1, [.ref 4, .int (Int32.ofNat 0), .int p])), ow, ⟨Nat.le_refl _, Nat.le_add_right _ _, Nat.le_refl _, Nat.le_add_right _ _, rfl⟩, ?_, cI_low (g := g) (g' := ag_up g 3 (.inr (1, [.ref 4, .int (Int32.ofNat 0), .int p]))) (ln' := 0) rfl (fun q a b c => if_neg b) ⟨p, f, rfl, l2, fun i hi => absurd hi (by omega)⟩ (fun mk hG => hG) h0⟩
  unfold fn_GC_wipe fn_GC_wipe_0
  rw [pu_gr (k := 0) e2 rfl, Option.bind_some, pu_pf e3 (Nat.le_of_ble_eq_true rfl) rfl rfl, Option.bind_some]
  rfl
abbrev li_no (x1 x2 : Int32) : Prop := x1 < Int32.ofInt 1 ∨ (Int8.ofInt (30)).toInt32 < x1 ∨ x2 < Int32.ofInt 1 ∨ ¬ x2 ≤ (Int8.ofInt (12)).toInt32
def s_li (x1 x2 : Int32) (most more : Nat) : Int32 × Nat × Nat := if li_no x1 x2 then (Int32.ofInt 0, most, more) else (Int32.ofInt 1, x1.toNatClampNeg, x2.toNatClampNeg)
theorem li_nat1 {x : Int32} (h1 : ¬ x < Int32.ofInt 1) : ∃ k, 1 ≤ k ∧ k < 2147483648 ∧ x = Int32.ofNat k := by
  have h0 : ¬ x < 0 := fun q => h1 (by
    rw [Int32.lt_iff_toInt_lt] at q ⊢
    have e1 : (Int32.ofInt 1).toInt = 1 := by decide
    have e2 : (0 : Int32).toInt = 0 := by decide
    omega)
  have h4 := ag_nn2' h0
  have h5 : x.toNatClampNeg < 2147483648 := by
    have := ag_nn x h0
    have := Int32.toInt_lt x
    omega
  rw [h4, n_1, n_lt h5 (by omega)] at h1
  exact ⟨_, by omega, h5, h4⟩
theorem li_nat {x1 x2 : Int32} (h : ¬ li_no x1 x2) : ∃ k1 k2, (1 ≤ k1 ∧ k1 ≤ 30) ∧ (1 ≤ k2 ∧ k2 ≤ 12) ∧ x1 = Int32.ofNat k1 ∧ x2 = Int32.ofNat k2 := by
  have h1 : ¬ x1 < Int32.ofInt 1 := fun q => h (Or.inl q)
  have h2 : ¬ (Int8.ofInt (30)).toInt32 < x1 := fun q => h (Or.inr (Or.inl q))
  have h3 : ¬ x2 < Int32.ofInt 1 := fun q => h (Or.inr (Or.inr (Or.inl q)))
  have h4 : x2 ≤ (Int8.ofInt (12)).toInt32 := Decidable.byContradiction fun q => h (Or.inr (Or.inr (Or.inr q)))
  obtain ⟨k1, a1, a2, rfl⟩ := li_nat1 h1
  obtain ⟨k2, b1, b2, rfl⟩ := li_nat1 h3
  rw [n_c30, n_lt (by omega) a2] at h2
  rw [n_c12, n_le b2 (by omega)] at h4
  exact ⟨k1, k2, ⟨a1, by omega⟩, ⟨b1, by omega⟩, rfl, rfl⟩
theorem c_limits (h : cI ow g lc ln M Bs D Ts K most more re rd un Gs) (x1 x2 : Int32) : c_ret (fn_GC_limits N C 2 x1 x2 g) g (s_li x1 x2 most more).1 (fun ow g => cI ow g lc ln M Bs D Ts K (s_li x1 x2 most more).2.1 (s_li x1 x2 most more).2.2 re rd un Gs) := by
  have h0 := h
  obtain ⟨h1, hL, -, -, -, mk, hG, hO⟩ := h
  have e2 : ag_at g (.ref 2) = _ := pu_at (by omega) (by omega) hG
  unfold fn_GC_limits fn_GC_limits_0 s_li
  by_cases c : li_no x1 x2
  · rw [if_pos c]
    refine ⟨g, ow, c_fr_self g, ?_, h0⟩
    by_cases c1 : x1 < Int32.ofInt 1
    · rw [if_pos c1]; rfl
    rw [if_neg c1]
    by_cases c2 : (Int8.ofInt (30)).toInt32 < x1
    · rw [if_pos c2]; rfl
    rw [if_neg c2]
    by_cases c3 : x2 < Int32.ofInt 1
    · rw [if_pos c3]; rfl
    rw [if_neg c3, if_neg (show ¬ x2 ≤ (Int8.ofInt (12)).toInt32 from by
      rcases c with c | c | c | c
      · exact absurd c c1
      · exact absurd c c2
      · exact absurd c c3
      · exact c)]
    rfl
  · obtain ⟨k1, k2, b1, b2, hx1, hx2⟩ := li_nat c
    rw [if_neg c, if_neg (show ¬ x1 < Int32.ofInt 1 from fun q => c (Or.inl q)), if_neg (show ¬ (Int8.ofInt (30)).toInt32 < x1 from fun q => c (Or.inr (Or.inl q))), if_neg (show ¬ x2 < Int32.ofInt 1 from fun q => c (Or.inr (Or.inr (Or.inl q)))), if_pos (show x2 ≤ (Int8.ofInt (12)).toInt32 from Decidable.byContradiction fun q => c (Or.inr (Or.inr (Or.inr q))))]
    subst hx1 hx2
    have hv1 : (Int32.ofNat k1).toNatClampNeg = k1 := n_nat (by omega)
    have hv2 : (Int32.ofNat k2).toNatClampNeg = k2 := n_nat (by omega)
    dsimp only
    rw [hv1, hv2]
    refine ⟨ag_up (ag_up g 2 (.inr (0, [.ref 3, .ref 5, .ref 7, .ref 46, .ref 48, .ref 49, .ref mk, .int (Int32.ofNat K), .int (Int32.ofNat k1), .int (Int32.ofNat more)]))) 2 (.inr (0, [.ref 3, .ref 5, .ref 7, .ref 46, .ref 48, .ref 49, .ref mk, .int (Int32.ofNat K), .int (Int32.ofNat k1), .int (Int32.ofNat k2)])), ow, ⟨Nat.le_refl _, Nat.le_add_right _ _, Nat.le_refl _, Nat.le_add_right _ _, rfl⟩, ?_, cI_low (g := g) (g' := ag_up (ag_up g 2 (.inr (0, [.ref 3, .ref 5, .ref 7, .ref 46, .ref 48, .ref 49, .ref mk, .int (Int32.ofNat K), .int (Int32.ofNat k1), .int (Int32.ofNat more)]))) 2 (.inr (0, [.ref 3, .ref 5, .ref 7, .ref 46, .ref 48, .ref 49, .ref mk, .int (Int32.ofNat K), .int (Int32.ofNat k1), .int (Int32.ofNat k2)]))) rfl (fun q a b c => (if_neg a).trans (if_neg a)) hL ?_ h0⟩
    · rw [pu_pf e2 (Nat.le_of_ble_eq_true rfl) rfl rfl, Option.bind_some, pu_pf (pu_up_eq _ e2) (Nat.le_of_ble_eq_true rfl) rfl rfl, Option.bind_some]
      rfl
    · intro mk1 hG1
      have : mk1 = mk := by
        unfold cG at hG hG1
        rw [hG] at hG1
        cases hG1
        rfl
      subst this
      rfl
theorem b_latest (h : cI ow g lc ln M Bs D Ts K most more re rd un Gs) (hm : mI S lc ln M Bs D Ts K most more re rd un G) (hl : Gs.length = G.length) (x : Int32) : ∃ y, fn_GC_latest N C 2 x g = some (y, g) ∧ fn_Md_latest N x S = some (y, (va_up S.1 0 (Int32.ofInt 0), S.2)) := by
  obtain ⟨h1, -, -, ⟨kn, rf, tr, he, mi, fa, ov, room, rv, rw1, va, sk, ra, ⟨h7, h8, -⟩, -⟩, -, mk, hG, hO⟩ := h
  have hJ := hm.2.2.2.2
  have e2 : ag_at g (.ref 2) = _ := pu_at (by omega) (by omega) hG
  have e7 : ag_at g (.ref 7) = _ := pu_at (by omega) (by omega) h7
  have e8 : ag_at g (.ref 8) = _ := pu_at (by omega) (by omega) h8
  exact o_latest N C e2 rfl e7 rfl (by rw [hJ.1]; rfl) (by rw [hJ.2.1]; rfl) (by rw [hJ.2.2.1]; rfl) e8 (by rw [hJ.2.2.2.1, ← hl]; rfl) x
theorem al_rep_at {α : Type} {P : Nat → Prop} {E : Nat → α → Prop} {l : Nat} {L : List α} (h : al_rep P E g l L) : ∃ ls, ag_at g (.ref l) = some (.inr (11, ls)) ∧ ls[1]? = some (.int (Int32.ofNat L.length)) := by
  obtain ⟨h1, h2, h3, md, ⟨e, h4⟩ | ⟨e, n0, v, _, _, _, h4, _⟩⟩ := h
  · subst e
    exact ⟨_, pu_at h2 h3 h4, rfl⟩
  · exact ⟨_, pu_at h2 h3 h4, rfl⟩
theorem b_count (h : cI ow g lc ln M Bs D Ts K most more re rd un Gs) (hm : mI S lc ln M Bs D Ts K most more re rd un G) (x : Int32) : ∃ y, fn_GC_count N C 2 x g = some (y, g) ∧ fn_Md_count N x S = some (y, (va_up S.1 0 (Int32.ofInt 0), S.2)) := by
  obtain ⟨h1, ⟨p, f, l1, -⟩, -, -, -, mk, hG, o1, ⟨o2, o3⟩, o4, o5, o6, o7, o8, o9, lm, o10, o11⟩ := h
  obtain ⟨⟨m4, m5, m6, m7, m8, m9⟩, mL, mB, -⟩ := hm
  have e2 : ag_at g (.ref 2) = _ := pu_at (by omega) (by omega) hG
  have e3 : ag_at g (.ref 3) = _ := pu_at (by omega) (by omega) l1
  obtain ⟨a1, a2, a3⟩ := al_rep_at o6
  obtain ⟨b1, b2, b3⟩ := al_rep_at o5
  obtain ⟨c1, c2, c3⟩ := al_rep_at o11
  obtain ⟨d1, d2, d3⟩ := al_rep_at o4
  exact o_count N C e2 rfl rfl rfl rfl rfl (by rw [m6]; rfl) e3 (by rw [show ((Int8.ofInt (95)).toInt32).toNatClampNeg = 95 from rfl, mL.1]; rfl) a2 (by rw [m9]; exact a3) b2 (by rw [m5]; exact b3) (pu_at o8 o9 o10) rfl c2 (by rw [show (Int32.ofInt 0).toNatClampNeg = 0 from rfl, mB.1]; exact c3) (pu_at (by omega) (by omega) o3) rfl d2 (by rw [m4]; exact d3) x
theorem mB_95 {a1 a2 a3 b1 b2 : Nat → Int32} (h : mB a1 a2 a3 M Bs D) (ok : g_ok lc ln M Bs D Ts K most more) (h1 : ∀ q, q < 3800 → b1 q = a1 q) (h2 : ∀ q, q < 95 → b2 q = a2 q) : mB b1 b2 a3 M Bs D := by
  have key : ∀ (t : Nat) (x : g_Cl), t < 95 → tx a1 a2 t x → tx b1 b2 t x := by
    intro t x ht ⟨c, n, k1, k2, k3, k4⟩
    exact ⟨c, n, k1, (h2 t ht).trans k2, fun i hi => ⟨(h1 _ (by omega)).trans (k3 i hi).1, (k3 i hi).2⟩, k4⟩
  have s1 := ok.2.1.1
  have s2 := ok.2.2.1
  have s3 := ok.2.2.2.1.1
  have s4 := ok.2.2.2.2.1.1
  refine ⟨h.1, fun i y hy => key _ _ ?_ (h.2.1 i y hy), fun b L hb => ⟨(h.2.2.1 b L hb).1, fun i y hy => key _ _ ?_ ((h.2.2.1 b L hb).2 i y hy)⟩, fun i y hy => key _ _ ?_ (h.2.2.2 i y hy)⟩
  · have := (List.getElem?_eq_some_iff.mp hy).1
    omega
  · have := (List.getElem?_eq_some_iff.mp hy).1
    have := (List.getElem?_eq_some_iff.mp hb).1
    have := (s2.2 L (List.mem_of_getElem? hb)).1
    omega
  · have := (List.getElem?_eq_some_iff.mp hy).1
    omega
theorem m_type (h : mI S lc ln M Bs D Ts K most more re rd un G) (ok : g_ok lc ln M Bs D Ts K most more) (x : Int32) : m_ret (fn_Md_type N x S) (s_ty x lc ln).1 (fun S => mI S (s_ty x lc ln).2.1 (s_ty x lc ln).2.2 M Bs D Ts K most more re rd un G) := by
  have hln := ok.1.1
  obtain ⟨h1, ⟨l1, l2⟩, hB, hT, hJ⟩ := h
  have e95 : S.2 2 ((Int8.ofInt (95)).toInt32).toNatClampNeg = Int32.ofNat ln := l1
  unfold s_ty
  by_cases c : ty_no x ln
  · rw [if_pos c]
    refine ⟨_, o_typr N ?_, h1, ⟨l1, l2⟩, hB, hT, hJ⟩
    rw [e95, n_c40]
    rcases c with c | c | c
    · exact Or.inl c
    · exact Or.inr (Or.inl c)
    · exact Or.inr (Or.inr (n_ltF (by omega) (by omega)))
  · rw [if_neg c]
    obtain ⟨k, k1, k2, hx, k3⟩ := ty_nat c
    have e38 : (Int16.ofInt (3800)).toInt32 + S.2 2 ((Int8.ofInt (95)).toInt32).toNatClampNeg = Int32.ofNat (3800 + ln) := by rw [e95, show (Int16.ofInt (3800)).toInt32 = Int32.ofNat 3800 from by decide, n_add]
    have ht := o_typm N (S := S) (x := x) (fun q => c (Or.inl q)) (fun q => c (Or.inr (Or.inl q))) (by rw [e95, n_c40]; exact n_ltT (by omega) (by omega)) (by rw [e38, n_in (by omega), mL1]; omega)
    rw [e38, n_nat (by omega), e95, n_1, n_add] at ht
    refine ⟨_, ht, h1, ⟨upd_eq (S.2 2) 95 (Int32.ofNat (ln + 1)), fun i hi => ?_⟩, mB_95 hB ok (fun q hq => upd_ne (by omega)) (fun q hq => upd_ne (show q ≠ 95 by omega)), hT, hJ⟩
    · show upd (S.2 1) (3800 + ln) x (3800 + i) = Int32.ofNat (if i = ln then x.toNatClampNeg else lc i)
      by_cases e : i = ln
      · rw [if_pos e, e, upd_eq, hx, n_nat (by omega)]
      · rw [if_neg e, upd_ne (by omega)]
        have hi : i < ln + 1 := hi
        exact l2 i (by omega)
theorem m_wipe (h : mI S lc ln M Bs D Ts K most more re rd un G) (ok : g_ok lc ln M Bs D Ts K most more) : m_ret (fn_Md_wipe N S) 0 (fun S => mI S lc 0 M Bs D Ts K most more re rd un G) := by
  obtain ⟨h1, ⟨l1, l2⟩, hB, hT, hJ⟩ := h
  refine ⟨_, rfl, h1, ⟨upd_eq (S.2 2) 95 (Int32.ofNat 0), fun i hi => absurd hi (by omega)⟩, mB_95 hB ok (fun _ _ => rfl) (fun q hq => upd_ne (show q ≠ 95 by omega)), hT, hJ⟩
theorem m_limits (h : mI S lc ln M Bs D Ts K most more re rd un G) (x1 x2 : Int32) : m_ret (fn_Md_limits N x1 x2 S) (s_li x1 x2 most more).1 (fun S => mI S lc ln M Bs D Ts K (s_li x1 x2 most more).2.1 (s_li x1 x2 most more).2.2 re rd un G) := by
  unfold fn_Md_limits fn_Md_limits_0 s_li
  by_cases c : li_no x1 x2
  · rw [if_pos c]
    refine ⟨(va_up S.1 0 (Int32.ofInt 0), S.2), ?_, h⟩
    by_cases c1 : x1 < Int32.ofInt 1
    · rw [if_pos c1]; rfl
    rw [if_neg c1]
    by_cases c2 : (Int8.ofInt (30)).toInt32 < x1
    · rw [if_pos c2]; rfl
    rw [if_neg c2]
    by_cases c3 : x2 < Int32.ofInt 1
    · rw [if_pos c3]; rfl
    rw [if_neg c3, if_neg (show ¬ x2 ≤ (Int8.ofInt (12)).toInt32 from by
      rcases c with c | c | c | c
      · exact absurd c c1
      · exact absurd c c2
      · exact absurd c c3
      · exact c)]
    rfl
  · obtain ⟨k1, k2, b1, b2, hx1, hx2⟩ := li_nat c
    rw [if_neg c, if_neg (show ¬ x1 < Int32.ofInt 1 from fun q => c (Or.inl q)), if_neg (show ¬ (Int8.ofInt (30)).toInt32 < x1 from fun q => c (Or.inr (Or.inl q))), if_neg (show ¬ x2 < Int32.ofInt 1 from fun q => c (Or.inr (Or.inr (Or.inl q)))), if_pos (show x2 ≤ (Int8.ofInt (12)).toInt32 from Decidable.byContradiction fun q => c (Or.inr (Or.inr (Or.inr q))))]
    subst hx1 hx2
    have hv1 : (Int32.ofNat k1).toNatClampNeg = k1 := n_nat (by omega)
    have hv2 : (Int32.ofNat k2).toNatClampNeg = k2 := n_nat (by omega)
    dsimp only
    rw [hv1, hv2]
    obtain ⟨⟨m4, m5, m6, m7, m8, m9⟩, hL, hB, hT, hJ⟩ := h
    exact ⟨(va_up (va_up (va_up S.1 0 (Int32.ofInt 0)) 7 (Int32.ofNat k1)) 8 (Int32.ofNat k2), S.2), rfl, ⟨m4, m5, m6, rfl, rfl, m9⟩, hL, hB, hT, hJ⟩
theorem m_clear (h : mI S lc ln M Bs D Ts K most more re rd un G) : m_ret (fn_Md_clear N S) 0 (fun S => mI S lc ln M Bs [] Ts K most more re rd un G) := by
  obtain ⟨⟨m4, m5, m6, m7, m8, m9⟩, hL, ⟨b1, b2, b3, b4⟩, hT, hJ⟩ := h
  exact ⟨_, rfl, ⟨rfl, m5, m6, m7, m8, m9⟩, hL, ⟨b1, b2, b3, fun i x hx => absurd hx (by simp)⟩, hT, hJ⟩
/-- the sizes are kept -/
theorem ok_type (ok : g_ok lc ln M Bs D Ts K most more) (x : Int32) : g_ok (s_ty x lc ln).2.1 (s_ty x lc ln).2.2 M Bs D Ts K most more := by
  obtain ⟨⟨o1, o2⟩, o3⟩ := ok
  unfold s_ty
  by_cases c : ty_no x ln
  · rw [if_pos c]; exact ⟨⟨o1, o2⟩, o3⟩
  · obtain ⟨k, k1, k2, hx, k3⟩ := ty_nat c
    rw [if_neg c]
    refine ⟨⟨k3, fun i hi => ?_⟩, o3⟩
    show 32 ≤ (if i = ln then x.toNatClampNeg else lc i) ∧ (if i = ln then x.toNatClampNeg else lc i) ≤ 126
    by_cases e : i = ln
    · rw [if_pos e, hx, n_nat (by omega)]; exact ⟨k1, k2⟩
    · rw [if_neg e]
      have hi : i < ln + 1 := hi
      exact o2 i (by omega)
theorem ok_wipe (ok : g_ok lc ln M Bs D Ts K most more) : g_ok lc 0 M Bs D Ts K most more := ⟨⟨by omega, fun i hi => absurd hi (by omega)⟩, ok.2⟩
theorem ok_limits (ok : g_ok lc ln M Bs D Ts K most more) (x1 x2 : Int32) : g_ok lc ln M Bs D Ts K (s_li x1 x2 most more).2.1 (s_li x1 x2 most more).2.2 := by
  obtain ⟨o1, o2, o3, o4, o5, o6⟩ := ok
  unfold s_li
  by_cases c : li_no x1 x2
  · rw [if_pos c]; exact ⟨o1, o2, o3, o4, o5, o6⟩
  · obtain ⟨k1, k2, b1, b2, hx1, hx2⟩ := li_nat c
    rw [if_neg c]
    refine ⟨o1, o2, o3, o4, o5, ?_⟩
    dsimp only
    rw [hx1, hx2, n_nat (by omega), n_nat (by omega)]
    exact ⟨b1, b2⟩
theorem ok_clear (ok : g_ok lc ln M Bs D Ts K most more) : g_ok lc ln M Bs [] Ts K most more := ⟨ok.1, ok.2.1, ok.2.2.1, ⟨by decide, fun x hx => absurd hx (by simp)⟩, ok.2.2.2.2⟩
theorem ok_clause (ok : g_ok lc ln M Bs D Ts K most more) {x : g_Cl} (h : (s_cl lc ln M).2.2 = some x) : g_ok lc 0 (M ++ [x]) Bs D Ts K most more := by
  obtain ⟨o1, o2, o3⟩ := ok
  unfold s_cl at h
  cases e : g_rd lc ln with
  | none => rw [e] at h; cases h
  | some y =>
    rw [e] at h
    dsimp only at h
    by_cases c1 : 3 < y.1
    · rw [if_pos c1] at h; cases h
    rw [if_neg c1] at h
    by_cases c2 : M.length = 5
    · rw [if_pos c2] at h; cases h
    rw [if_neg c2] at h
    cases h
    refine ⟨⟨by omega, fun i hi => absurd hi (by omega)⟩, ⟨by rw [List.length_append]; show M.length + 1 ≤ 5; omega, fun z hz => ?_⟩, o3⟩
    rcases List.mem_append.mp hz with hz | hz
    · exact o2.2 z hz
    · rw [List.mem_singleton] at hz
      subst hz
      exact ⟨g_rd_ok o1.1 e, by omega⟩
theorem ok_desk (ok : g_ok lc ln M Bs D Ts K most more) {x : g_Cl} (h : (s_de lc ln D).2.2 = some x) : g_ok lc 0 M Bs (D ++ [x]) Ts K most more := by
  obtain ⟨o1, o2, o3, o4, o5⟩ := ok
  unfold s_de at h
  cases e : g_rd lc ln with
  | none => rw [e] at h; cases h
  | some y =>
    rw [e] at h
    dsimp only at h
    by_cases c2 : D.length = 10
    · rw [if_pos c2] at h; cases h
    rw [if_neg c2] at h
    cases h
    refine ⟨⟨by omega, fun i hi => absurd hi (by omega)⟩, o2, o3, ⟨by rw [List.length_append]; show D.length + 1 ≤ 10; omega, fun z hz => ?_⟩, o5⟩
    rcases List.mem_append.mp hz with hz | hz
    · exact o4.2 z hz
    · rw [List.mem_singleton] at hz
      subst hz
      exact g_rd_ok o1.1 e
end SIM
