/-! ### keepWithNewLink; issue, append, seal -/
theorem ag_nn2' {z : Int32} (hz : ¬ z < 0) : z = Int32.ofNat z.toNatClampNeg := by
  have h1 := ag_nn z hz
  apply Int32.toInt_inj.mp
  have := Int32.toInt_lt z
  rw [Int32.toInt_ofNat_of_lt (by
    have h2 : ((z.toNatClampNeg : Nat) : Int) < 2147483648 := by rw [← h1]; exact this
    show _ < 2147483648
    omega)]
  exact h1
section KWL
variable {N : Nat} {C : Nat × Nat} {ow : Nat → Nat} {g : ag_H} {lc : Nat → Nat} {ln : Nat} {M : List g_Cl} {Bs : List (List g_Cl)} {D : List g_Cl} {Ts : List w_T} {K most more : Nat} {re : Int32} {rd : Nat} {un : Int32} {Gs : List j_R} {t : Nat} {T : w_T}
theorem cI_2 (h : cI ow g lc ln M Bs D Ts K most more re rd un Gs) : ∃ mk, ag_at g (.ref 2) = some (.inr (0, [.ref 3, .ref 5, .ref 7, .ref 46, .ref 48, .ref 49, .ref mk, .int (Int32.ofNat K), .int (Int32.ofNat most), .int (Int32.ofNat more)])) := by
  obtain ⟨h1, -, -, -, -, mk1, hG1, -⟩ := h
  exact ⟨mk1, pu_at (by omega) (by omega) hG1⟩
/-- the token with one link more -/
def w_nl (T : w_T) (nb nk : Nat) (signer : Int32) : w_T := (T.1 ++ [(Int32.ofNat nb, Int32.ofNat nk, signer, Int32.ofNat nb, Int32.ofNat nk)], false, Int32.ofNat nk, T.2.2.2)
theorem c_kwl (h : cI ow g lc ln M Bs D Ts K most more re rd un Gs) (hy : yT ow g t T) (hB : Bs.length ≤ 16) (hT : Ts.length ≤ 16) (hL : T.1.length < 9) (signer : Int32) (hC1 : g.1 + 6 ≤ C.1) (hC2 : g.2.1 + 109 ≤ C.2) : ∃ g' ow', fn_GC_keepWithNewLink N C 2 (some t) signer g = some (Int32.ofNat Ts.length, g') ∧ c_fr g g' 6 109 ∧ cI ow' g' lc ln [] (Bs ++ [M]) D (Ts ++ [w_nl T (Bs.length + 1) (K + 1) signer]) (K + 1) most more re rd un Gs := by
  obtain ⟨mk, g1, g2, g3, ow3, a1, a2, a3, a4, a5, ⟨f1, f2, f3, f4, f5⟩, a7, a8⟩ := c_closeB (N := N) (C := C) h hB (by omega) (by omega)
  have y3 := yT_ext f1 a8 hy
  obtain ⟨g4, b1, ⟨e1, e2, e3, e4, e5⟩, b3, b4⟩ := c_newKey (N := N) (C := C) a7
  have o3 : ∀ q, ow3 q ≠ 1 → (46 ≤ q ∧ q < 52) ∨ 75 ≤ q := by
    obtain ⟨-, -, -, -, -, mk3, -, hO3⟩ := a7
    exact hO3.1
  have y4 : yT ow3 g4 t T := yT_ext e1 (fun q hq hl => ⟨rfl, b4 q (fun e => by have := o3 q (by omega); omega)⟩) y3
  have h75 := b3.1
  have c5 := cI_nw 5 (.inr (9, [.int (Int32.ofNat (Bs.length + 1)), .int (Int32.ofNat (K + 1)), .int signer, .int (Int32.ofNat (Bs.length + 1)), .int (Int32.ofNat (K + 1))])) 0 b3
  have y5 := yT_nw 5 (.inr (9, [.int (Int32.ofNat (Bs.length + 1)), .int (Int32.ofNat (K + 1)), .int signer, .int (Int32.ofNat (Bs.length + 1)), .int (Int32.ofNat (K + 1))])) 0 y4
  obtain ⟨k1, k2⟩ := y_lk (N := N) (C := C) (ow := ow3) h75 (Int32.ofNat (Bs.length + 1), Int32.ofNat (K + 1), signer, Int32.ofNat (Bs.length + 1), Int32.ofNat (K + 1))
  obtain ⟨l, hl4, ea4, hr4⟩ := yT_at y4
  obtain ⟨l5, hl5, ea5, hr5⟩ := yT_at y5
  have hll : l5 = l := by
    have : (ag_nw g4 5 (.inr (9, [.int (Int32.ofNat (Bs.length + 1)), .int (Int32.ofNat (K + 1)), .int signer, .int (Int32.ofNat (Bs.length + 1)), .int (Int32.ofNat (K + 1))]))).2.2 t = _ := (if_neg (by have := y4.2.2.1; omega)).trans hl4
    rw [hl5] at this
    cases this
    rfl
  subst hll
  have n5 : (ag_nw g4 5 (.inr (9, [.int (Int32.ofNat (Bs.length + 1)), .int (Int32.ofNat (K + 1)), .int signer, .int (Int32.ofNat (Bs.length + 1)), .int (Int32.ofNat (K + 1))]))).1 = g4.1 + 1 := rfl
  have s5 : (ag_nw g4 5 (.inr (9, [.int (Int32.ofNat (Bs.length + 1)), .int (Int32.ofNat (K + 1)), .int signer, .int (Int32.ofNat (Bs.length + 1)), .int (Int32.ofNat (K + 1))]))).2.1 = g4.2.1 + 5 := rfl
  have q5 : (ag_nw g4 5 (.inr (9, [.int (Int32.ofNat (Bs.length + 1)), .int (Int32.ofNat (K + 1)), .int signer, .int (Int32.ofNat (Bs.length + 1)), .int (Int32.ofNat (K + 1))]))).2.2 74 = g4.2.2 74 := if_neg (by omega)
  have k1' : fn_Lk_init N C g4.1 (Int32.ofNat (Bs.length + 1)) (Int32.ofNat (K + 1)) signer (Int32.ofNat (Bs.length + 1)) (Int32.ofNat (K + 1)) (ag_nw g4 5 (.inr (9, [.int 0, .int 0, .int 0, .int 0, .int 0]))) = some (0, ag_nw g4 5 (.inr (9, [.int (Int32.ofNat (Bs.length + 1)), .int (Int32.ofNat (K + 1)), .int signer, .int (Int32.ofNat (Bs.length + 1)), .int (Int32.ofNat (K + 1))]))) := k1
  have k2' : lk_rep (own (ow_nx ow3 g4.1 0) 0) (ag_nw g4 5 (.inr (9, [.int (Int32.ofNat (Bs.length + 1)), .int (Int32.ofNat (K + 1)), .int signer, .int (Int32.ofNat (Bs.length + 1)), .int (Int32.ofNat (K + 1))]))) g4.1 (Int32.ofNat (Bs.length + 1), Int32.ofNat (K + 1), signer, Int32.ofNat (Bs.length + 1), Int32.ofNat (K + 1)) := k2
  generalize ag_nw g4 5 (.inr (9, [.int (Int32.ofNat (Bs.length + 1)), .int (Int32.ofNat (K + 1)), .int signer, .int (Int32.ofNat (Bs.length + 1)), .int (Int32.ofNat (K + 1))])) = g5 at c5 y5 hl5 ea5 hr5 n5 s5 q5 k1' k2'
  obtain ⟨g6, m1, m2, m3⟩ := y_add (N := N) (C := C) (show 75 ≤ g5.1 by omega) y5 hl5 (by omega) k2' (by omega) (by omega)
  have c6' := c6_cI m2 c5
  have f6 := m2.2
  obtain ⟨l6, hl6, ea6, hr6⟩ := yT_at m3
  obtain ⟨g7, n1, n2, n3⟩ := y_open (N := N) (C := C) (show 75 ≤ g6.1 by omega) m3 (Int32.ofNat (K + 1))
  have c7 := c6_cI n2 c6'
  have f7 := n2.2
  obtain ⟨g8, ow8, p1, ⟨p2, p3, p4, p5, p6⟩, p7⟩ := c_keep (N := N) (C := C) c7 n3 hT (by omega) (by omega)
  have fr6 := c6_fr m2 (by obtain ⟨-, -, -, -, -, mk5, -, hO5⟩ := c5; exact hO5.1)
  have fr7 := c6_fr n2 (by obtain ⟨-, -, -, -, -, mk5, -, hO5⟩ := c6'; exact hO5.1)
  refine ⟨g8, ow8, ?_, ⟨by omega, by omega, by omega, by omega, p6.trans (fr7.2.2.2.2.trans (fr6.2.2.2.2.trans (q5.trans (e5.trans f5))))⟩, p7⟩
  obtain ⟨h1, -, -, -, -, mk0, hG, hO⟩ := h
  have e2 : ag_at g (.ref 2) = _ := pu_at (by omega) (by omega) hG
  obtain ⟨g75, -, -, -, -, mk3, hG3, hO3⟩ := a7
  have e23 : ag_at g3 (.ref 2) = _ := pu_at (by omega) (by omega) hG3
  obtain ⟨-, -, -, -, -, mk4, hG4, -⟩ := b3
  have e24 : ag_at g4 (.ref 2) = _ := pu_at (by omega) (by omega) hG4
  obtain ⟨-, -, -, -, -, mk7, hG7, -⟩ := c7
  have e27 : ag_at g7 (.ref 2) = _ := pu_at (by omega) (by omega) hG7
  have r48 := hO3.2.2.2.1
  unfold fn_GC_keepWithNewLink fn_GC_keepWithNewLink_0
  rw [pu_gr (k := 4) e2 rfl, Option.bind_some, a1, Option.bind_some, al_rep_rc hO.2.2.2.1, Option.bind_some, a2, Option.bind_some]
  dsimp only
  rw [if_pos a3, a4, Option.bind_some]
  dsimp only
  rw [a5, Option.bind_some, pu_gr (k := 4) e23 rfl, Option.bind_some, al_rep_rc r48, Option.bind_some, al_rep_size r48, Option.bind_some]
  dsimp only
  rw [pu_rc e23, Option.bind_some, b1, Option.bind_some]
  dsimp only
  rw [pu_gr (k := 0) ea4 rfl, Option.bind_some, if_pos ⟨by omega, by omega⟩, List.length_append]
  show ((fn_Lk_init N C g4.1 (Int32.ofNat (Bs.length + 1)) (Int32.ofNat (K + 1)) signer (Int32.ofNat (Bs.length + 1)) (Int32.ofNat (K + 1)) (ag_nw g4 5 (.inr (9, [.int 0, .int 0, .int 0, .int 0, .int 0])))).bind _) = _
  rw [k1', Option.bind_some]
  dsimp only
  rw [al_rep_rc hr5, Option.bind_some, m1, Option.bind_some]
  dsimp only
  rw [pu_rc ea6, Option.bind_some, n1, Option.bind_some]
  dsimp only
  rw [pu_rc e27, Option.bind_some, p1, Option.bind_some]
/-- what issue answers and throws -/
def s_iss (x : Int32) (Ts : List w_T) : Int32 × Int32 := if x < Int32.ofInt 1 then (Int32.ofInt 0, Int32.ofInt 1) else if Int32.ofInt 3 < x then (Int32.ofInt 0, Int32.ofInt 1) else if Ts.length = 16 then (Int32.ofInt 0, Int32.ofInt 2) else (Int32.ofNat Ts.length, Int32.ofInt 0)
/-- a call that answers r.1, or throws what kd names r.2 -/
def c_out (kd : Nat → Option Int32) (F : Option ((Int32 ⊕ Nat) × ag_H)) (g : ag_H) (r : Int32 × Int32) (I0 I1 : (Nat → Nat) → ag_H → Prop) : Prop := ∃ g' ow', c_fr g g' 100 500 ∧ ((r.2 = Int32.ofInt 0 ∧ F = some (.inl r.1, g') ∧ I1 ow' g') ∨ (¬ r.2 = Int32.ofInt 0 ∧ ∃ e ci, F = some (.inr e, g') ∧ ag_at g' (.ref e) = some (.inr (ci, [])) ∧ kd ci = some r.2 ∧ I0 ow' g'))
theorem c_thr {kd : Nat → Option Int32} {F : Option ((Int32 ⊕ Nat) × ag_H)} {r : Int32 × Int32} {I1 : (Nat → Nat) → ag_H → Prop} (h : cI ow g lc ln M Bs D Ts K most more re rd un Gs) (ci : Nat) (hF : F = if g.1 + 1 ≤ C.1 ∧ g.2.1 + 6 ≤ C.2 then some (.inr g.1, ag_nw g 6 (.inr (ci, []))) else none) (hC1 : g.1 + 1 ≤ C.1) (hC2 : g.2.1 + 6 ≤ C.2) (h0 : ¬ r.2 = Int32.ofInt 0) (hk : kd ci = some r.2) : c_out kd F g r (fun ow g => cI ow g lc ln M Bs D Ts K most more re rd un Gs) I1 := by
  obtain ⟨x1, x2, x3, x4, x5, x6, x7⟩ := c_exc h ci
  rw [if_pos ⟨hC1, hC2⟩] at hF
  exact ⟨_, _, ⟨x3, by omega, x5, by omega, x7⟩, Or.inr ⟨h0, g.1, ci, hF, x2, hk, x1⟩⟩
theorem c_issue (h : cI ow g lc ln M Bs D Ts K most more re rd un Gs) (ok : g_ok lc ln M Bs D Ts K most more) (x : Int32) (hC1 : g.1 + 100 ≤ C.1) (hC2 : g.2.1 + 500 ≤ C.2) :
    c_out kd_issue (fn_GC_issue N C 2 x g) g (s_iss x Ts) (fun ow g => cI ow g lc ln M Bs D Ts K most more re rd un Gs) (fun ow g => cI ow g lc ln [] (Bs ++ [M]) D (Ts ++ [w_nl ([], false, 0, 0) (Bs.length + 1) (K + 1) x]) (K + 1) most more re rd un Gs) := by
  have h0 := h
  obtain ⟨h1, -, -, -, -, mk, hG, hO⟩ := h
  have e2 : ag_at g (.ref 2) = _ := pu_at (by omega) (by omega) hG
  have hT16 := ok.2.2.2.2.1.1
  have hBT := ok.2.2.1.1
  unfold s_iss fn_GC_issue fn_GC_issue_0 fn_GC_isRoot fn_GC_isRoot_0 fn_GC_isRoot_14 fn_GC_isRoot_15
  by_cases c1 : x < Int32.ofInt 1
  · rw [if_pos c1, if_pos c1, if_pos n_b0, Option.bind_some, if_pos n_e00]
    exact c_thr h0 12 rfl (by omega) (by omega) (by decide) rfl
  rw [if_neg c1, if_neg c1]
  by_cases c2 : Int32.ofInt 3 < x
  · rw [if_pos c2, if_pos c2, if_pos n_b0, Option.bind_some, if_pos n_e00]
    exact c_thr h0 12 rfl (by omega) (by omega) (by decide) rfl
  rw [if_neg c2, if_neg c2, if_pos n_b1, Option.bind_some, if_neg n_ne10, pu_gr (k := 5) e2 rfl, Option.bind_some, al_rep_rc hO.2.2.2.2.1, Option.bind_some, al_rep_size hO.2.2.2.2.1, Option.bind_some, n_c16]
  dsimp only
  by_cases c3 : Ts.length = 16
  · rw [if_pos c3, if_neg (n_ltF (by omega) (by omega))]
    exact c_thr h0 13 rfl (by omega) (by omega) (by decide) rfl
  · rw [if_neg c3, if_pos (n_ltT (by omega) (by omega)), if_pos ⟨by omega, by omega⟩]
    obtain ⟨g1, k1, k2, k3⟩ := y_init (N := N) (C := C) (ow := ow) h1 (by omega) (by omega)
    have c1 := c6_cI k2 h0
    have kb := k2.2
    have fr1 := c6_fr k2 hO.1
    obtain ⟨g2, ow2, m1, ⟨m2, m3, m4, m5, m6⟩, m7⟩ := c_kwl (N := N) (C := C) c1 k3 (by omega) (by omega) (by decide) x (by omega) (by omega)
    refine ⟨g2, ow2, ⟨by omega, by omega, by omega, by omega, m6.trans fr1.2.2.2.2⟩, Or.inl ⟨rfl, ?_, m7⟩⟩
    obtain ⟨mk1, e21⟩ := cI_2 c1
    rw [k1, Option.bind_some]
    dsimp only
    rw [pu_rc e21, Option.bind_some, m1, Option.bind_some]
/-- is there such a token -/
theorem c_isT (h : cI ow g lc ln M Bs D Ts K most more re rd un Gs) (hT : Ts.length ≤ 16) (x : Int32) : fn_GC_isToken N C 2 x g = some (if x < 0 ∨ Int32.ofNat Ts.length ≤ x then Int32.ofInt 0 else Int32.ofInt 1, g) := by
  obtain ⟨h1, -, -, -, -, mk, hG, hO⟩ := h
  have e2 : ag_at g (.ref 2) = _ := pu_at (by omega) (by omega) hG
  unfold fn_GC_isToken fn_GC_isToken_0 fn_GC_isToken_21 fn_GC_isToken_22
  by_cases c1 : x < 0
  · rw [if_pos c1, if_pos (Or.inl c1), if_pos n_b0]
  · rw [if_neg c1, pu_gr (k := 5) e2 rfl, Option.bind_some, al_rep_rc hO.2.2.2.2.1, Option.bind_some, al_rep_size hO.2.2.2.2.1, Option.bind_some]
    dsimp only
    by_cases c2 : Int32.ofNat Ts.length ≤ x
    · rw [if_pos c2, if_pos (Or.inr c2), if_pos n_b0]
    · rw [if_neg c2, if_pos n_b1, if_neg (show ¬ (x < 0 ∨ Int32.ofNat Ts.length ≤ x) from fun q => q.elim c1 c2)]
/-- a number that names a token -/
theorem isT_nat {n : Nat} (hn : n ≤ 16) {x : Int32} (h : ¬ (x < 0 ∨ Int32.ofNat n ≤ x)) : ∃ i, i < n ∧ x = Int32.ofNat i := by
  have h1 : ¬ x < 0 := fun q => h (Or.inl q)
  have h2 : ¬ Int32.ofNat n ≤ x := fun q => h (Or.inr q)
  refine ⟨x.toNatClampNeg, ?_, ag_nn2' h1⟩
  rw [ag_nn2' h1] at h2
  have h3 : x.toNatClampNeg < 2147483648 := by
    have := ag_nn x h1
    have := Int32.toInt_lt x
    omega
  rw [n_le (by omega) h3] at h2
  omega
end KWL
