/-! ### tamper: the class's side -/
def w_can (n : Nat) (how a b : Int32) : Bool := if how = 0 then !decide (Int32.ofNat n ≤ Int32.ofInt 1) else !(decide (how ≤ 0) || decide ((Int8.ofInt (6)).toInt32 < how) || decide (a < 0) || decide (Int32.ofNat n ≤ a) || ((decide (how = Int32.ofInt 1) || decide (how = Int32.ofInt 2)) && (decide (b < 0) || decide (Int32.ofNat n ≤ b))))
def w_k (T : w_T) (a : Int32) : w_K := T.1.getD a.toNatClampNeg (0, 0, 0, 0, 0)
/-- the token that is made, and the last key -/
def w_tm (T : w_T) (how a b : Int32) (nB K : Nat) : w_T × Nat :=
  if how = (0 : Int32) then ((T.1.take (T.1.length - 1), T.2), K)
  else if how = (1 : Int32) then (((T.1.set a.toNatClampNeg ((w_k T b).1, (w_k T a).2)).set b.toNatClampNeg ((w_k T a).1, (w_k T b).2), T.2), K)
  else if how = (2 : Int32) then (((T.1.set a.toNatClampNeg (w_k T b)).set b.toNatClampNeg (w_k T a), T.2), K)
  else if how = (3 : Int32) then ((T.1.set a.toNatClampNeg (Int32.ofNat nB, (w_k T a).2), T.2), K)
  else if how = (4 : Int32) then ((T.1.set a.toNatClampNeg ((w_k T a).1, Int32.ofNat (K + 1), (w_k T a).2.2), T.2), K + 1)
  else if how = (5 : Int32) then (((T.1.set a.toNatClampNeg ((w_k T a).1, Int32.ofNat (K + 1), (w_k T a).2.2)).take (a.toNatClampNeg + 1), false, Int32.ofNat (K + 1), T.2.2.2), K + 1)
  else ((T.1.set a.toNatClampNeg ((w_k T a).1, (w_k T a).2.1, T.2.2.1, (w_k T a).1, (w_k T a).2.1), T.2), K)
def s_tam (x how a b : Int32) (Ts : List w_T) : Int32 × Int32 := if w_no Ts x then (Int32.ofInt 0, Int32.ofInt 1) else if w_can (w_at Ts x).1.length how a b = false then (Int32.ofInt 0, Int32.ofInt 1) else if Ts.length = 16 ∨ (how = (Int8.ofInt (6)).toInt32 ∧ (w_at Ts x).2.1 = true) then (Int32.ofInt 0, Int32.ofInt 2) else (Int32.ofNat Ts.length, Int32.ofInt 0)
section CTA
variable {N : Nat} {C : Nat × Nat} {ow : Nat → Nat} {g : ag_H} {lc : Nat → Nat} {ln : Nat} {M : List g_Cl} {Bs : List (List g_Cl)} {D : List g_Cl} {Ts : List w_T} {K most more : Nat} {re : Int32} {rd : Nat} {un : Int32} {Gs : List j_R} {t : Nat} {T : w_T}
theorem c_can (n : Nat) (how a b : Int32) : fn_GC_canTamper N C (Int32.ofNat n) how a b g = some (j_b (w_can n how a b), g) := by
  unfold fn_GC_canTamper fn_GC_canTamper_0 fn_GC_canTamper_14 fn_GC_canTamper_25 fn_GC_canTamper_30 fn_GC_canTamper_65 fn_GC_canTamper_69 fn_GC_canTamper_70 w_can
  simp only [if_pos n_b0, if_pos n_b1]
  by_cases e0 : how = 0
  · rw [if_pos e0, if_pos e0]
    by_cases e1 : Int32.ofNat n ≤ Int32.ofInt 1
    · rw [if_pos e1, decide_eq_true e1]; rfl
    · rw [if_neg e1, decide_eq_false e1]; rfl
  · rw [if_neg e0, if_neg e0]
    have fin : ∀ (s : Int32) (bb : Bool), (s = 0 ↔ bb = false) → (if how ≤ 0 then some (Int32.ofInt 0, g) else if (Int8.ofInt (6)).toInt32 < how then some (Int32.ofInt 0, g) else if a < 0 then some (Int32.ofInt 0, g) else if Int32.ofNat n ≤ a then some (Int32.ofInt 0, g) else if s = 0 then some (Int32.ofInt 1, g) else if b < 0 then some (Int32.ofInt 0, g) else if Int32.ofNat n ≤ b then some (Int32.ofInt 0, g) else some (Int32.ofInt 1, g)) = some (j_b (!(decide (how ≤ 0) || decide ((Int8.ofInt (6)).toInt32 < how) || decide (a < 0) || decide (Int32.ofNat n ≤ a) || (bb && (decide (b < 0) || decide (Int32.ofNat n ≤ b))))), g) := by
      intro s bb hs
      by_cases c1 : how ≤ 0
      · rw [if_pos c1, decide_eq_true c1]; rfl
      rw [if_neg c1, decide_eq_false c1]
      by_cases c2 : (Int8.ofInt (6)).toInt32 < how
      · rw [if_pos c2, decide_eq_true c2]; rfl
      rw [if_neg c2, decide_eq_false c2]
      by_cases c3 : a < 0
      · rw [if_pos c3, decide_eq_true c3]; rfl
      rw [if_neg c3, decide_eq_false c3]
      by_cases c4 : Int32.ofNat n ≤ a
      · rw [if_pos c4, decide_eq_true c4]; rfl
      rw [if_neg c4, decide_eq_false c4]
      by_cases c5 : s = 0
      · rw [if_pos c5, hs.mp c5]; rfl
      have hb : bb = true := by
        cases bb with
        | true => rfl
        | false => exact absurd (hs.mpr rfl) c5
      rw [if_neg c5, hb]
      by_cases c6 : b < 0
      · rw [if_pos c6, decide_eq_true c6]; rfl
      rw [if_neg c6, decide_eq_false c6]
      by_cases c7 : Int32.ofNat n ≤ b
      · rw [if_pos c7, decide_eq_true c7]; rfl
      · rw [if_neg c7, decide_eq_false c7]; rfl
    by_cases e1 : how = Int32.ofInt 1
    · rw [if_pos e1, fin (Int32.ofInt 1) true (by decide), decide_eq_true e1]
      rfl
    · rw [if_neg e1]
      by_cases e2 : how = Int32.ofInt 2
      · rw [if_pos e2, fin (Int32.ofInt 1) true (by decide), decide_eq_true e2, decide_eq_false e1]
        rfl
      · rw [if_neg e2, fin (Int32.ofInt 0) false (by decide), decide_eq_false e1, decide_eq_false e2]
        rfl
/-- what w_can says of the numbers -/
theorem w_can_a {n : Nat} (hn : n ≤ 16) {how a b : Int32} (h : w_can n how a b = true) : (how = 0 → 1 < n) ∧ (¬ how = 0 → (0 < how ∧ how ≤ (Int8.ofInt (6)).toInt32) ∧ (∃ i, i < n ∧ a = Int32.ofNat i) ∧ (how = Int32.ofInt 1 ∨ how = Int32.ofInt 2 → ∃ i, i < n ∧ b = Int32.ofNat i)) := by
  unfold w_can at h
  by_cases e0 : how = 0
  · rw [if_pos e0] at h
    refine ⟨fun _ => ?_, fun q => absurd e0 q⟩
    simp only [Bool.not_eq_true', decide_eq_false_iff_not] at h
    rw [n_1, n_le (by omega) (by omega)] at h
    omega
  · rw [if_neg e0] at h
    refine ⟨fun q => absurd q e0, fun _ => ?_⟩
    simp only [Bool.not_eq_true', Bool.or_eq_false_iff, decide_eq_false_iff_not, Bool.and_eq_false_iff] at h
    obtain ⟨⟨⟨⟨h1, h2⟩, h3⟩, h4⟩, h5⟩ := h
    have lt : ∀ x y : Int32, ¬ x ≤ y → y < x := fun x y h => by
      rw [Int32.le_iff_toInt_le] at h
      rw [Int32.lt_iff_toInt_lt]
      omega
    have le : ∀ x y : Int32, ¬ x < y → y ≤ x := fun x y h => by
      rw [Int32.lt_iff_toInt_lt] at h
      rw [Int32.le_iff_toInt_le]
      omega
    refine ⟨⟨lt _ _ h1, le _ _ h2⟩, isT_nat hn (fun q => q.elim h3 h4), fun hb => ?_⟩
    rcases h5 with h5 | h5
    · rcases hb with hb | hb
      · exact absurd hb h5.1
      · exact absurd hb h5.2
    · exact isT_nat hn (fun q => q.elim h5.1 h5.2)
theorem w_k_get {i : Nat} (hi : i < T.1.length) (h : T.1.length ≤ 16) : T.1[i]? = some (w_k T (Int32.ofNat i)) := by
  unfold w_k
  rw [n_nat (by omega), List.getD_eq_getElem?_getD, List.getElem?_eq_getElem hi]
  rfl
theorem c_tm98 (hN : 1000 ≤ N) (h : cI ow g lc ln M Bs D Ts K most more re rd un Gs) (hT : Ts.length ≤ 16) (hB : Bs.length ≤ 16) {s : Nat} (hs : tk_rep (own ow 0) g s T) (hl : 1 ≤ T.1.length ∧ T.1.length ≤ 4) {how a b : Int32} (hc : w_can T.1.length how a b = true) (hC1 : g.1 + 100 ≤ C.1) (hC2 : g.2.1 + 500 ≤ C.2) : ∃ g' ow', fn_GC_tamper_98 N C 2 how a b (some s) g = some (.inl (Int32.ofNat Ts.length), g') ∧ c_fr g g' 100 500 ∧ cI ow' g' lc ln M Bs D (Ts ++ [(w_tm T how a b Bs.length K).1]) (w_tm T how a b Bs.length K).2 most more re rd un Gs := by
  have hO1 : ∀ q, ow q ≠ 1 → (46 ≤ q ∧ q < 52) ∨ 75 ≤ q := by obtain ⟨-, -, -, -, -, mk, -, hO⟩ := h; exact hO.1
  have h75 := h.1
  obtain ⟨w1, w2⟩ := w_can_a (by omega) hc
  obtain ⟨s1, s2, s3, ls, s4, s5⟩ := hs
  have hs' : tk_rep (own ow 0) g s T := ⟨s1, s2, s3, ls, s4, s5⟩
  obtain ⟨g1, ow1, m1, m2, m3⟩ := y_copy (N := N) (C := C) hN h75 hs' (by omega) (by omega) (by omega)
  have c1 := c6_cI m2 h
  have mb := m2.2
  have fr1 := c6_fr m2 hO1
  have hO2 : ∀ q, ow1 q ≠ 1 → (46 ≤ q ∧ q < 52) ∨ 75 ≤ q := by obtain ⟨-, -, -, -, -, mk, -, hO⟩ := c1; exact hO.1
  obtain ⟨l1, hl1, ea1, hr1⟩ := yT_at m3
  have hg1 : 75 ≤ g1.1 := by omega
  -- the end: the token is kept
  have fin : ∀ (g2 : ag_H) (ow2 : Nat → Nat) (T2 : w_T) (K2 : Nat), cI ow2 g2 lc ln M Bs D Ts K2 most more re rd un Gs → yT ow2 g2 g.1 T2 → c_fr g1 g2 10 50 → ∃ g' ow', fn_GC_tamper_304 N C 2 (some g.1) g2 = some (.inl (Int32.ofNat Ts.length), g') ∧ c_fr g g' 100 500 ∧ cI ow' g' lc ln M Bs D (Ts ++ [T2]) K2 most more re rd un Gs := by
    intro g2 ow2 T2 K2 hI hY ⟨f1, f2, f3, f4, f5⟩
    obtain ⟨mk2, e22⟩ := cI_2 hI
    obtain ⟨g3, ow3, p1, ⟨p2, p3, p4, p5, p6⟩, p7⟩ := c_keep (N := N) (C := C) hI hY hT (by omega) (by omega)
    refine ⟨g3, ow3, ?_, ⟨by omega, by omega, by omega, by omega, p6.trans (f5.trans fr1.2.2.2.2)⟩, p7⟩
    unfold fn_GC_tamper_304
    rw [pu_rc e22, Option.bind_some, p1, Option.bind_some]
  have fin6 : ∀ (g2 : ag_H) (ow2 : Nat → Nat) (T2 : w_T) {aa bb : Nat}, c6 ow1 ow2 g1 g2 aa bb → aa ≤ 10 → bb ≤ 50 → yT ow2 g2 g.1 T2 → ∃ g' ow', fn_GC_tamper_304 N C 2 (some g.1) g2 = some (.inl (Int32.ofNat Ts.length), g') ∧ c_fr g g' 100 500 ∧ cI ow' g' lc ln M Bs D (Ts ++ [T2]) K most more re rd un Gs := by
    intro g2 ow2 T2 aa bb hc6 ha hb hY
    exact fin g2 ow2 T2 K (c6_cI hc6 c1) hY (c6_fr (c6_up hc6 ha hb) hO2)
  unfold fn_GC_tamper_98
  rw [pu_rc (pu_at s2 s3 s4), Option.bind_some, m1, Option.bind_some]
  dsimp only
  unfold w_tm
  by_cases e0 : how = (0 : Int32)
  · rw [if_pos e0, if_pos e0, pu_gr (k := 0) ea1 rfl, Option.bind_some, al_rep_rc hr1, Option.bind_some, al_rep_size hr1, Option.bind_some]
    dsimp only
    have hn := w1 e0
    obtain ⟨g2, ow2, k1, k2, k3⟩ := y_cut (N := N) (C := C) (n := T.1.length - 1) hN hg1 m3 (by omega) (by omega) (by omega)
    rw [pu_rc ea1, Option.bind_some, n_1, n_sub (by omega), k1, Option.bind_some]
    exact fin6 g2 ow2 _ k2 (by omega) (by omega) k3
  rw [if_neg e0, if_neg e0]
  obtain ⟨⟨w3, w4⟩, ⟨i, hi, rfl⟩, w5⟩ := w2 e0
  have hgi := w_k_get hi (by omega)
  rw [n_nat (by omega)]
  by_cases e1 : how = (1 : Int32)
  · obtain ⟨j, hj, rfl⟩ := w5 (Or.inl e1)
    rw [if_pos e1, if_pos e1, pu_rc ea1, Option.bind_some, n_nat (by omega)]
    obtain ⟨g2, ow2, k1, k2, k3⟩ := y_swb (N := N) (C := C) hg1 m3 hgi (w_k_get hj (by omega)) (by omega) (by omega)
    rw [k1, Option.bind_some]
    exact fin6 g2 ow2 _ k2 (by omega) (by omega) k3
  rw [if_neg e1, if_neg e1]
  by_cases e2 : how = (2 : Int32)
  · obtain ⟨j, hj, rfl⟩ := w5 (Or.inr e2)
    rw [if_pos e2, if_pos e2, pu_rc ea1, Option.bind_some, n_nat (by omega)]
    obtain ⟨g2, ow2, k1, k2, k3⟩ := y_swl (N := N) (C := C) hg1 m3 hgi (w_k_get hj (by omega))
    rw [k1, Option.bind_some]
    exact fin6 g2 ow2 _ k2 (by omega) (by omega) k3
  rw [if_neg e2, if_neg e2]
  obtain ⟨pa, ga, la, lat⟩ := y_get (N := N) (C := C) m3 hl1 hgi
  obtain ⟨mk1, e21⟩ := cI_2 c1
  by_cases e3 : how = (3 : Int32)
  · have r48 : al_rep (own ow1 3) (bl_rep (own ow1 0) g1) g1 48 Bs := by obtain ⟨-, -, -, -, -, mk, -, hO⟩ := c1; exact hO.2.2.2.1
    rw [if_pos e3, if_pos e3, pu_gr (k := 4) e21 rfl, Option.bind_some, al_rep_rc r48, Option.bind_some, al_rep_size r48, Option.bind_some]
    dsimp only
    rw [pu_gr (k := 0) ea1 rfl, Option.bind_some, al_rep_rc hr1, Option.bind_some, ga, Option.bind_some]
    dsimp only
    obtain ⟨g2, ow2, k1, k2, k3⟩ := y_change (N := N) (C := C) hg1 m3 hgi (Int32.ofNat Bs.length) (w_k T (Int32.ofNat i)).2.1 (by omega) (by omega)
    rw [if_pos (pu_ck lat), pu_gi (k := 1) lat rfl, Option.bind_some, pu_rc ea1, Option.bind_some, k1, Option.bind_some]
    exact fin6 g2 ow2 _ k2 (by omega) (by omega) k3
  rw [if_neg e3, if_neg e3]
  -- a new key
  obtain ⟨g2, b1, ⟨d1, d2, d3, d4, d5⟩, b3, b4⟩ := c_newKey (N := N) (C := C) c1
  have y2 : yT ow1 g2 g.1 T := yT_ext d1 (fun q hq hl => ⟨rfl, b4 q (fun e => by have := hO2 q (by omega); omega)⟩) m3
  obtain ⟨l2, hl2, ea2, hr2⟩ := yT_at y2
  obtain ⟨mk2, e22⟩ := cI_2 b3
  by_cases e4 : how = (4 : Int32)
  · rw [if_pos e4, if_pos e4, pu_gr (k := 0) ea1 rfl, Option.bind_some, al_rep_rc hr1, Option.bind_some, ga, Option.bind_some]
    dsimp only
    obtain ⟨g3, ow3, k1, k2, k3⟩ := y_change (N := N) (C := C) (show 75 ≤ g2.1 by omega) y2 hgi (w_k T (Int32.ofNat i)).1 (Int32.ofNat (K + 1)) (by omega) (by omega)
    have k5 := k2.2
    have fr3 := c6_fr k2 hO2
    rw [if_pos (pu_ck lat), pu_gi (k := 0) lat rfl, Option.bind_some, pu_rc e21, Option.bind_some, b1, Option.bind_some]
    dsimp only
    rw [pu_rc ea2, Option.bind_some, k1, Option.bind_some]
    exact fin g3 ow3 _ (K + 1) (c6_cI k2 b3) k3 ⟨by omega, by omega, by omega, by omega, fr3.2.2.2.2.trans d5⟩
  rw [if_neg e4, if_neg e4]
  by_cases e5 : how = (5 : Int32)
  · rw [if_pos e5, if_pos e5, pu_gr (k := 0) ea1 rfl, Option.bind_some, al_rep_rc hr1, Option.bind_some, ga, Option.bind_some]
    dsimp only
    obtain ⟨g3, ow3, k1, k2, k3⟩ := y_change (N := N) (C := C) (show 75 ≤ g2.1 by omega) y2 hgi (w_k T (Int32.ofNat i)).1 (Int32.ofNat (K + 1)) (by omega) (by omega)
    have k5 := k2.2
    have fr3 := c6_fr k2 hO2
    have c3 := c6_cI k2 b3
    have hO3 : ∀ q, ow3 q ≠ 1 → (46 ≤ q ∧ q < 52) ∨ 75 ≤ q := by obtain ⟨-, -, -, -, -, mk, -, hO⟩ := c3; exact hO.1
    obtain ⟨l3, hl3, ea3, hr3⟩ := yT_at k3
    have hset : (T.1.set i ((w_k T (Int32.ofNat i)).1, Int32.ofNat (K + 1), (w_k T (Int32.ofNat i)).2.2)).length = T.1.length := List.length_set
    obtain ⟨g4, ow4, n1, n2, n3⟩ := y_cut (N := N) (C := C) (n := i + 1) hN (show 75 ≤ g3.1 by omega) k3 (by omega) (by show i + 1 ≤ (T.1.set i _).length; omega) (by show (T.1.set i _).length < 100; omega)
    have n5 := n2.2
    have fr4 := c6_fr n2 hO3
    have c4 := c6_cI n2 c3
    have hO4 : ∀ q, ow4 q ≠ 1 → (46 ≤ q ∧ q < 52) ∨ 75 ≤ q := by obtain ⟨-, -, -, -, -, mk, -, hO⟩ := c4; exact hO.1
    obtain ⟨mk4, e24⟩ := cI_2 c4
    obtain ⟨l4, hl4, ea4, hr4⟩ := yT_at n3
    obtain ⟨g5, p1, p2, p3⟩ := y_open (N := N) (C := C) (show 75 ≤ g4.1 by omega) n3 (Int32.ofNat (K + 1))
    have p5 := p2.2
    have fr5 := c6_fr p2 hO4
    rw [if_pos (pu_ck lat), pu_gi (k := 0) lat rfl, Option.bind_some, pu_rc e21, Option.bind_some, b1, Option.bind_some]
    dsimp only
    rw [pu_rc ea2, Option.bind_some, k1, Option.bind_some]
    dsimp only
    rw [pu_rc ea3, Option.bind_some, n_1, n_add, n1, Option.bind_some]
    dsimp only
    rw [pu_gi (k := 7) e24 rfl, Option.bind_some, pu_rc ea4, Option.bind_some, p1, Option.bind_some]
    exact fin g5 ow4 _ (K + 1) (c6_cI p2 c4) p3 ⟨by omega, by omega, by omega, by omega, fr5.2.2.2.2.trans (fr4.2.2.2.2.trans (fr3.2.2.2.2.trans d5))⟩
  rw [if_neg e5, if_neg e5, pu_rc ea1, Option.bind_some]
  obtain ⟨g3, ow3, k1, k2, k3⟩ := y_sign (N := N) (C := C) hg1 m3 hgi (by omega) (by omega)
  rw [k1, Option.bind_some]
  exact fin6 g3 ow3 _ k2 (by omega) (by omega) k3
theorem c_tamper (hN : 1000 ≤ N) (h : cI ow g lc ln M Bs D Ts K most more re rd un Gs) (ok : g_ok lc ln M Bs D Ts K most more) (x how a b : Int32) (hC1 : g.1 + 100 ≤ C.1) (hC2 : g.2.1 + 500 ≤ C.2) :
    c_out kd_tamper (fn_GC_tamper N C 2 x how a b g) g (s_tam x how a b Ts) (fun ow g => cI ow g lc ln M Bs D Ts K most more re rd un Gs) (fun ow g => cI ow g lc ln M Bs D (Ts ++ [(w_tm (w_at Ts x) how a b Bs.length K).1]) (w_tm (w_at Ts x) how a b Bs.length K).2 most more re rd un Gs) := by
  have h0 := h
  obtain ⟨h1, -, -, -, -, mk, hG, hO⟩ := h
  have e2 : ag_at g (.ref 2) = _ := pu_at (by omega) (by omega) hG
  have hT16 := ok.2.2.2.2.1.1
  have hBT := ok.2.2.1.1
  have h39 : fn_GC_tamper_39 N C 2 g = if g.1 + 1 ≤ C.1 ∧ g.2.1 + 6 ≤ C.2 then some (.inr g.1, ag_nw g 6 (.inr (14, []))) else none := rfl
  have h90 : fn_GC_tamper_90 N C 2 g = if g.1 + 1 ≤ C.1 ∧ g.2.1 + 6 ≤ C.2 then some (.inr g.1, ag_nw g 6 (.inr (13, []))) else none := rfl
  unfold s_tam fn_GC_tamper fn_GC_tamper_0
  rw [pu_rc e2, Option.bind_some, c_isT h0 hT16 x, Option.bind_some]
  dsimp only
  by_cases c1 : w_no Ts x
  · rw [if_pos c1, if_pos (show x < 0 ∨ Int32.ofNat Ts.length ≤ x from c1), if_pos n_e00]
    exact c_thr h0 14 h39 (by omega) (by omega) (by decide) rfl
  obtain ⟨bb, l, k1, k2, k3, k4⟩ := c_tok (N := N) (C := C) h0 hT16 c1
  have hlen := (ok.2.2.2.2.1.2 (w_at Ts x) (by obtain ⟨i, _, _, h3⟩ := w_at_get hT16 c1; exact List.mem_of_getElem? h3)).1
  rw [if_neg c1, if_neg (show ¬ (x < 0 ∨ Int32.ofNat Ts.length ≤ x) from c1), if_neg n_ne10, pu_gr (k := 5) e2 rfl, Option.bind_some, al_rep_rc hO.2.2.2.2.1, Option.bind_some, k1, Option.bind_some]
  dsimp only
  rw [if_pos (pu_ck k2), pu_gr (k := 0) k2 rfl, Option.bind_some, al_rep_rc k3, Option.bind_some, al_rep_size k3, Option.bind_some]
  dsimp only
  rw [c_can, Option.bind_some]
  dsimp only
  cases hc : w_can (w_at Ts x).1.length how a b with
  | false =>
    rw [if_pos (show j_b false = 0 from n_e00), if_pos rfl]
    exact c_thr h0 14 h39 (by omega) (by omega) (by decide) rfl
  | true =>
    rw [if_neg (show ¬ j_b true = 0 from n_ne10), if_neg (by decide), pu_gr (k := 5) e2 rfl, Option.bind_some, al_rep_rc hO.2.2.2.2.1, Option.bind_some, k1, Option.bind_some]
    dsimp only
    rw [if_pos (pu_ck k2), pu_gr (k := 5) e2 rfl, Option.bind_some, al_rep_rc hO.2.2.2.2.1, Option.bind_some, al_rep_size hO.2.2.2.2.1, Option.bind_some, n_c16]
    dsimp only
    by_cases c5 : Ts.length = 16
    · rw [if_pos (n_leT (by omega) (by omega)), if_pos (Or.inl c5)]
      exact c_thr h0 13 h90 (by omega) (by omega) (by decide) rfl
    · rw [if_neg (n_leF (by omega) (by omega))]
      obtain ⟨g', ow', p1, p2, p3⟩ := c_tm98 (N := N) (C := C) hN h0 hT16 (by omega) k4 hlen hc hC1 hC2
      by_cases c6 : how = (Int8.ofInt (6)).toInt32
      · rw [if_pos c6, pu_gi (k := 1) k2 rfl, Option.bind_some]
        cases hs : (w_at Ts x).2.1 with
        | true =>
          rw [if_neg (show ¬ j_b true = 0 from n_ne10), if_pos (Or.inr ⟨c6, rfl⟩)]
          exact c_thr h0 13 h90 (by omega) (by omega) (by decide) rfl
        | false =>
          rw [if_pos (show j_b false = 0 from n_e00), if_neg (show ¬ (Ts.length = 16 ∨ how = (Int8.ofInt (6)).toInt32 ∧ false = true) from fun q => by rcases q with q | q; exact c5 q; exact absurd q.2 (by decide))]
          exact ⟨g', ow', p2, Or.inl ⟨rfl, p1, p3⟩⟩
      · rw [if_neg c6, if_neg (show ¬ (Ts.length = 16 ∨ how = (Int8.ofInt (6)).toInt32 ∧ (w_at Ts x).2.1 = true) from fun q => by rcases q with q | q; exact c5 q; exact c6 q.1)]
        exact ⟨g', ow', p2, Or.inl ⟨rfl, p1, p3⟩⟩
end CTA
