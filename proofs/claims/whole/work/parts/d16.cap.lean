/-! ### append, seal: the class's side -/
section CAP
variable {N : Nat} {C : Nat × Nat} {ow : Nat → Nat} {g : ag_H} {lc : Nat → Nat} {ln : Nat} {M : List g_Cl} {Bs : List (List g_Cl)} {D : List g_Cl} {Ts : List w_T} {K most more : Nat} {re : Int32} {rd : Nat} {un : Int32} {Gs : List j_R}
/-- the token at a number -/
def w_at (Ts : List w_T) (x : Int32) : w_T := Ts.getD x.toNatClampNeg ([], false, 0, 0)
abbrev w_no (Ts : List w_T) (x : Int32) : Prop := x < 0 ∨ Int32.ofNat Ts.length ≤ x
theorem w_at_get (hT : Ts.length ≤ 16) {x : Int32} (h : ¬ w_no Ts x) : ∃ i, i < Ts.length ∧ x = Int32.ofNat i ∧ Ts[i]? = some (w_at Ts x) := by
  obtain ⟨i, h1, rfl⟩ := isT_nat hT h
  refine ⟨i, h1, rfl, ?_⟩
  unfold w_at
  rw [n_nat (by omega), List.getD_eq_getElem?_getD, List.getElem?_eq_getElem h1]
  rfl
/-- what append answers and throws -/
def s_app (x : Int32) (Ts : List w_T) : Int32 × Int32 := if w_no Ts x then (Int32.ofInt 0, Int32.ofInt 1) else if (w_at Ts x).2.1 = true ∨ (w_at Ts x).1.length = 4 ∨ Ts.length = 16 then (Int32.ofInt 0, Int32.ofInt 2) else (Int32.ofNat Ts.length, Int32.ofInt 0)
def s_sea (x : Int32) (Ts : List w_T) : Int32 × Int32 := if w_no Ts x then (Int32.ofInt 0, Int32.ofInt 1) else if (w_at Ts x).2.1 = true ∨ Ts.length = 16 then (Int32.ofInt 0, Int32.ofInt 2) else (Int32.ofNat Ts.length, Int32.ofInt 0)
theorem c_tok (h : cI ow g lc ln M Bs D Ts K most more re rd un Gs) (hT : Ts.length ≤ 16) {x : Int32} (hx : ¬ w_no Ts x) : ∃ b l, fn_AL_get N C 49 x g = some (some b, g) ∧ ag_at g (.ref b) = some (.inr (8, [.ref l, .int (j_b (w_at Ts x).2.1), .int (w_at Ts x).2.2.1, .int (w_at Ts x).2.2.2])) ∧ al_rep (own ow 0) (lk_rep (own ow 0) g) g l (w_at Ts x).1 ∧ tk_rep (own ow 0) g b (w_at Ts x) := by
  obtain ⟨h1, -, -, -, -, mk, hG, hO⟩ := h
  obtain ⟨i, h2, rfl, h3⟩ := w_at_get hT hx
  obtain ⟨b, hb1, hb2⟩ := al_rep_get (N := N) (C := C) hO.2.2.2.2.1 h3
  have hb3 := hb2
  obtain ⟨b1, b2, b3, l, b4, b5⟩ := hb2
  exact ⟨b, l, hb1, pu_at b2 b3 b4, b5, hb3⟩
theorem c_append (hN : 1000 ≤ N) (h : cI ow g lc ln M Bs D Ts K most more re rd un Gs) (ok : g_ok lc ln M Bs D Ts K most more) (x : Int32) (hC1 : g.1 + 100 ≤ C.1) (hC2 : g.2.1 + 500 ≤ C.2) :
    c_out kd_append (fn_GC_append N C 2 x g) g (s_app x Ts) (fun ow g => cI ow g lc ln M Bs D Ts K most more re rd un Gs) (fun ow g => cI ow g lc ln [] (Bs ++ [M]) D (Ts ++ [w_nl (w_at Ts x) (Bs.length + 1) (K + 1) (w_at Ts x).2.2.1]) (K + 1) most more re rd un Gs) := by
  have h0 := h
  obtain ⟨h1, -, -, -, -, mk, hG, hO⟩ := h
  have e2 : ag_at g (.ref 2) = _ := pu_at (by omega) (by omega) hG
  have hT16 := ok.2.2.2.2.1.1
  have hBT := ok.2.2.1.1
  unfold s_app fn_GC_append fn_GC_append_0
  rw [pu_rc e2, Option.bind_some, c_isT h0 hT16 x, Option.bind_some]
  dsimp only
  by_cases c1 : w_no Ts x
  · rw [if_pos c1, if_pos (show x < 0 ∨ Int32.ofNat Ts.length ≤ x from c1), if_pos n_e00]
    exact c_thr h0 14 rfl (by omega) (by omega) (by decide) rfl
  obtain ⟨b, l, k1, k2, k3, k4⟩ := c_tok (N := N) (C := C) h0 hT16 c1
  have hlen := (ok.2.2.2.2.1.2 (w_at Ts x) (by obtain ⟨i, _, _, h3⟩ := w_at_get hT16 c1; exact List.mem_of_getElem? h3)).1
  have h64 : fn_GC_append_64 N C 2 g = if g.1 + 1 ≤ C.1 ∧ g.2.1 + 6 ≤ C.2 then some (.inr g.1, ag_nw g 6 (.inr (13, []))) else none := rfl
  rw [if_neg c1, if_neg (show ¬ (x < 0 ∨ Int32.ofNat Ts.length ≤ x) from c1), if_neg n_ne10, pu_gr (k := 5) e2 rfl, Option.bind_some, al_rep_rc hO.2.2.2.2.1, Option.bind_some, k1, Option.bind_some]
  dsimp only
  rw [if_pos (pu_ck k2), pu_gi (k := 1) k2 rfl, Option.bind_some]
  cases hs : (w_at Ts x).2.1 with
  | true =>
    rw [if_neg (show ¬ j_b true = 0 from n_ne10), if_pos (Or.inl rfl)]
    exact c_thr h0 13 h64 (by omega) (by omega) (by decide) rfl
  | false =>
    rw [if_pos (show j_b false = 0 from n_e00), pu_gr (k := 0) k2 rfl, Option.bind_some, al_rep_rc k3, Option.bind_some, al_rep_size k3, Option.bind_some, n_4]
    dsimp only
    by_cases c4 : (w_at Ts x).1.length = 4
    · rw [if_pos (n_leT (by omega) (by omega)), if_pos (Or.inr (Or.inl c4))]
      exact c_thr h0 13 h64 (by omega) (by omega) (by decide) rfl
    · rw [if_neg (n_leF (by omega) (by omega)), pu_gr (k := 5) e2 rfl, Option.bind_some, al_rep_rc hO.2.2.2.2.1, Option.bind_some, al_rep_size hO.2.2.2.2.1, Option.bind_some, n_c16]
      dsimp only
      by_cases c5 : Ts.length = 16
      · rw [if_neg (n_ltF (by omega) (by omega)), if_pos (Or.inr (Or.inr c5))]
        exact c_thr h0 13 h64 (by omega) (by omega) (by decide) rfl
      · rw [if_pos (n_ltT (by omega) (by omega)), if_neg (show ¬ (false = true ∨ (w_at Ts x).1.length = 4 ∨ Ts.length = 16) from fun q => by rcases q with q | q | q; cases q; exact c4 q; exact c5 q), pu_rc k2, Option.bind_some]
        obtain ⟨g1, ow1, m1, m2, m3⟩ := y_copy (N := N) (C := C) hN h1 k4 (by omega) (by omega) (by omega)
        have c1' := c6_cI m2 h0
        have mb := m2.2
        have fr1 := c6_fr m2 hO.1
        have k41 := c6_tk m2 k4
        obtain ⟨q1, q2, q3, l1, q4, q5⟩ := k41
        obtain ⟨mk1, e21⟩ := cI_2 c1'
        obtain ⟨g2, ow2, p1, ⟨p2, p3, p4, p5, p6⟩, p7⟩ := c_kwl (N := N) (C := C) c1' m3 (by omega) (by omega) (by omega) (w_at Ts x).2.2.1 (by omega) (by omega)
        refine ⟨g2, ow2, ⟨by omega, by omega, by omega, by omega, p6.trans fr1.2.2.2.2⟩, Or.inl ⟨rfl, ?_, p7⟩⟩
        rw [m1, Option.bind_some]
        dsimp only
        rw [pu_gi (k := 2) (pu_at q2 q3 q4) rfl, Option.bind_some, pu_rc e21, Option.bind_some, p1, Option.bind_some]
theorem c_seal (hN : 1000 ≤ N) (h : cI ow g lc ln M Bs D Ts K most more re rd un Gs) (ok : g_ok lc ln M Bs D Ts K most more) (x : Int32) (hC1 : g.1 + 100 ≤ C.1) (hC2 : g.2.1 + 500 ≤ C.2) :
    c_out kd_seal (fn_GC_seal N C 2 x g) g (s_sea x Ts) (fun ow g => cI ow g lc ln M Bs D Ts K most more re rd un Gs) (fun ow g => cI ow g lc ln M Bs D (Ts ++ [((w_at Ts x).1, true, (w_at Ts x).2.2.1, Int32.ofNat (w_at Ts x).1.length)]) K most more re rd un Gs) := by
  have h0 := h
  obtain ⟨h1, -, -, -, -, mk, hG, hO⟩ := h
  have e2 : ag_at g (.ref 2) = _ := pu_at (by omega) (by omega) hG
  have hT16 := ok.2.2.2.2.1.1
  unfold s_sea fn_GC_seal fn_GC_seal_0
  rw [pu_rc e2, Option.bind_some, c_isT h0 hT16 x, Option.bind_some]
  dsimp only
  by_cases c1 : w_no Ts x
  · rw [if_pos c1, if_pos (show x < 0 ∨ Int32.ofNat Ts.length ≤ x from c1), if_pos n_e00]
    exact c_thr h0 14 rfl (by omega) (by omega) (by decide) rfl
  obtain ⟨b, l, k1, k2, k3, k4⟩ := c_tok (N := N) (C := C) h0 hT16 c1
  have hlen := (ok.2.2.2.2.1.2 (w_at Ts x) (by obtain ⟨i, _, _, h3⟩ := w_at_get hT16 c1; exact List.mem_of_getElem? h3)).1
  have h51 : fn_GC_seal_51 N C 2 g = if g.1 + 1 ≤ C.1 ∧ g.2.1 + 6 ≤ C.2 then some (.inr g.1, ag_nw g 6 (.inr (13, []))) else none := rfl
  rw [if_neg c1, if_neg (show ¬ (x < 0 ∨ Int32.ofNat Ts.length ≤ x) from c1), if_neg n_ne10, pu_gr (k := 5) e2 rfl, Option.bind_some, al_rep_rc hO.2.2.2.2.1, Option.bind_some, k1, Option.bind_some]
  dsimp only
  rw [if_pos (pu_ck k2), pu_gi (k := 1) k2 rfl, Option.bind_some]
  cases hs : (w_at Ts x).2.1 with
  | true =>
    rw [if_neg (show ¬ j_b true = 0 from n_ne10), if_pos (Or.inl rfl)]
    exact c_thr h0 13 h51 (by omega) (by omega) (by decide) rfl
  | false =>
    rw [if_pos (show j_b false = 0 from n_e00), pu_gr (k := 5) e2 rfl, Option.bind_some, al_rep_rc hO.2.2.2.2.1, Option.bind_some, al_rep_size hO.2.2.2.2.1, Option.bind_some, n_c16]
    dsimp only
    by_cases c5 : Ts.length = 16
    · rw [if_neg (n_ltF (by omega) (by omega)), if_pos (Or.inr c5)]
      exact c_thr h0 13 h51 (by omega) (by omega) (by decide) rfl
    · rw [if_pos (n_ltT (by omega) (by omega)), if_neg (show ¬ (false = true ∨ Ts.length = 16) from fun q => by rcases q with q | q; cases q; exact c5 q), pu_rc k2, Option.bind_some]
      obtain ⟨g1, ow1, m1, m2, m3⟩ := y_copy (N := N) (C := C) hN h1 k4 (by omega) (by omega) (by omega)
      have c1' := c6_cI m2 h0
      have mb := m2.2
      have fr1 := c6_fr m2 hO.1
      obtain ⟨l1, hl1, ea1, hr1⟩ := yT_at m3
      obtain ⟨y1, y2⟩ := yT_up (T' := ((w_at Ts x).1, true, (w_at Ts x).2.2.1, Int32.ofNat (w_at Ts x).1.length)) (show 75 ≤ g1.1 by omega) m3 hl1 rfl
      obtain ⟨yy1, yy2⟩ := yT_up (T' := ((w_at Ts x).1, true, (w_at Ts x).2.2.1, (w_at Ts x).2.2.2)) (show 75 ≤ g1.1 by omega) m3 hl1 rfl
      have c2' := c6_cI y2 c1'
      have fr2 := c6_fr y2 (by obtain ⟨-, -, -, -, -, mk5, -, hO5⟩ := c1'; exact hO5.1)
      obtain ⟨mk2, e22⟩ := cI_2 c2'
      obtain ⟨l2, hl2, ea2, hr2⟩ := yT_at yy1
      have hll : l2 = l1 := by
        have : (ag_up g1 g.1 (.inr (8, [.ref l1, .int (j_b true), .int (w_at Ts x).2.2.1, .int (w_at Ts x).2.2.2]))).2.2 g.1 = _ := if_pos rfl
        rw [hl2] at this
        cases this
        rfl
      subst hll
      obtain ⟨g2, ow2, p1, ⟨p2, p3, p4, p5, p6⟩, p7⟩ := c_keep (N := N) (C := C) c2' y1 hT16 (show g1.1 + 1 ≤ C.1 by omega) (show g1.2.1 + 45 ≤ C.2 by omega)
      have p2 : g1.1 ≤ g2.1 := p2
      have p3 : g2.1 ≤ g1.1 + 1 := p3
      have p4 : g1.2.1 ≤ g2.2.1 := p4
      have p5 : g2.2.1 ≤ g1.2.1 + 45 := p5
      refine ⟨g2, ow2, ⟨by omega, by omega, by omega, by omega, p6.trans (fr2.2.2.2.2.trans fr1.2.2.2.2)⟩, Or.inl ⟨rfl, ?_, p7⟩⟩
      rw [m1, Option.bind_some]
      dsimp only
      rw [pu_pf ea1 (Nat.le_of_ble_eq_true rfl) rfl rfl, Option.bind_some]
      have ea2' : ag_at (ag_up g1 g.1 (.inr (8, [Value.ref l2, .int (j_b (w_at Ts x).2.1), .int (w_at Ts x).2.2.1, .int (w_at Ts x).2.2.2].set 1 (.int (Int32.ofInt 1))))) (.ref g.1) = some (.inr (8, [.ref l2, .int (j_b true), .int (w_at Ts x).2.2.1, .int (w_at Ts x).2.2.2])) := pu_up_eq _ ea1
      have hr2' : al_rep (own ow1 6) (lk_rep (own ow1 0) (ag_up g1 g.1 (.inr (8, [Value.ref l2, .int (j_b (w_at Ts x).2.1), .int (w_at Ts x).2.2.1, .int (w_at Ts x).2.2.2].set 1 (.int (Int32.ofInt 1)))))) (ag_up g1 g.1 (.inr (8, [Value.ref l2, .int (j_b (w_at Ts x).2.1), .int (w_at Ts x).2.2.1, .int (w_at Ts x).2.2.2].set 1 (.int (Int32.ofInt 1))))) l2 (w_at Ts x).1 := hr2
      rw [pu_gr (k := 0) ea2' rfl, Option.bind_some, al_rep_rc hr2', Option.bind_some, al_rep_size hr2', Option.bind_some]
      dsimp only
      rw [pu_pf ea2' (Nat.le_of_ble_eq_true rfl) rfl rfl, Option.bind_some, pu_up_up]
      show (((ag_rc (ag_up g1 g.1 (.inr (8, [.ref l2, .int (j_b true), .int (w_at Ts x).2.2.1, .int (Int32.ofNat (w_at Ts x).1.length)]))) (some 2) 0).bind _)) = _
      have p1' : fn_GC_keep N C 2 (some g.1) (ag_up g1 g.1 (.inr (8, [Value.ref l2, .int (j_b true), .int (w_at Ts x).2.2.1, .int (w_at Ts x).2.2.2].set 3 (.int (Int32.ofNat (w_at Ts x).1.length))))) = some (Int32.ofNat Ts.length, g2) := p1
      rw [pu_rc e22, Option.bind_some, p1', Option.bind_some]
end CAP
