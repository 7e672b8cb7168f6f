/-! ### A fact is offered -/
def rwu (rw : Nat → Nat → Int32) (q : Nat) (f : Nat → Int32) : Nat → Nat → Int32 := fun p => if p = q then f else rw p
theorem rwu_at (rw : Nat → Nat → Int32) (q : Nat) (f : Nat → Int32) : rwu rw q f q = f := if_pos rfl
theorem rwu_ne {rw : Nat → Nat → Int32} {q p : Nat} {f : Nat → Int32} (h : p ≠ q) : rwu rw q f p = rw p := if_neg h
theorem rwu_rwu (rw : Nat → Nat → Int32) (q : Nat) (f f' : Nat → Int32) : rwu (rwu rw q f) q f' = rwu rw q f' := by
  funext p
  unfold rwu
  by_cases e : p = q
  · rw [if_pos e, if_pos e]
  · rw [if_neg e, if_neg e, if_neg e]
/-- 0: alike; else as the first difference says -/
def j_od (f1 f2 : Nat → Int32) : Nat → Nat → Int32
  | 0, _ => Int32.ofInt 0
  | n + 1, i => if f1 i = f2 i then j_od f1 f2 n (i + 1) else if f2 i ≤ f1 i then Int32.ofInt 1 else Int32.ofInt (-1)
theorem j_od0 {f1 f2 : Nat → Int32} : j_od f1 f2 5 0 = 0 ↔ j_row f1 = j_row f2 := by
  have ne1 : ¬ Int32.ofInt 1 = 0 := n_ne10
  have ne2 : ¬ Int32.ofInt (-1) = 0 := by decide
  have no : ∀ i, ¬ (if f2 i ≤ f1 i then Int32.ofInt 1 else Int32.ofInt (-1)) = 0 := by
    intro i
    by_cases e : f2 i ≤ f1 i
    · rw [if_pos e]; exact ne1
    · rw [if_neg e]; exact ne2
  unfold j_row
  simp only [j_od, Prod.mk.injEq]
  by_cases e0 : f1 0 = f2 0
  · by_cases e1 : f1 1 = f2 1
    · by_cases e2 : f1 2 = f2 2
      · by_cases e3 : f1 3 = f2 3
        · by_cases e4 : f1 4 = f2 4
          · simp [e0, e1, e2, e3, e4]
          · simp only [e0, e1, e2, e3, e4, if_true, if_false, and_false, iff_false]
            exact no 4
        · simp only [e0, e1, e2, e3, if_true, if_false, false_and, and_false, iff_false]
          exact no 3
      · simp only [e0, e1, e2, if_true, if_false, false_and, and_false, iff_false]
        exact no 2
    · simp only [e0, e1, if_true, if_false, false_and, and_false, iff_false]
      exact no 1
  · simp only [e0, if_false, false_and, iff_false]
    exact no 0
def j_off (room : Nat) (r : j_R) (G : List j_R) (v : Bool) : List j_R × Bool := if r ∈ G then (G, v) else if room ≤ G.length then (G, true) else (G ++ [r], v)
def j_b (v : Bool) : Int32 := if v = true then Int32.ofInt 1 else Int32.ofInt 0
theorem j_b01 (v : Bool) : md_01 (j_b v) = true := by cases v <;> rfl
/-- the rows' places: 31 of them, each once -/
def ra_ok (rv : Nat → Option Nat) (ra : Nat → Nat) : Prop := (∀ i, i < 31 → rv i = some (ra i) ∧ 10 ≤ ra i ∧ ra i ≤ 40) ∧ ∀ i j, i < 31 → j < 31 → ra i = ra j → i = j
def fa_rep (rw : Nat → Nat → Int32) (ra : Nat → Nat) (G : List j_R) : Prop := G.length ≤ 30 ∧ ∀ i r, G[i]? = some r → j_row (rw (ra i)) = r
section OF
variable {N : Nat} {C : Nat × Nat} {g : ag_H} {re rd un : Int32} {kn : Nat} {rf tr he mi fa : Int32} {sz : Nat} {ov : Int32} {room : Nat} {rv : Nat → Option Nat} {rw : Nat → Nat → Int32} {va sk : Nat → Int32} {ra : Nat → Nat}
theorem c_od2 (o : 75 ≤ g.1) {q1 q2 : Nat} (h1 : 10 ≤ q1 ∧ q1 ≤ 40) (h2 : 10 ≤ q2 ∧ q2 ≤ 40) : ∀ (n d i : Nat), i + n = 5 → n < d → fn_Fa_order_2 N C d (some q1) (some q2) (Int32.ofNat i) (js g re rd un kn rf tr he mi fa sz ov room rv rw va sk) = some (j_od (rw q1) (rw q2) n i, js g re rd un kn rf tr he mi fa sz ov room rv rw va sk)
  | n, 0, i, hi, hd => absurd hd (by omega)
  | 0, d + 1, i, hi, hd => by
    rw [fe_Fa_order_2, n_5, if_pos (n_leT (by omega) (by omega))]
    rfl
  | n + 1, d + 1, i, hi, hd => by
    have hin : md_in (Int32.ofNat i) 5 = true := by rw [n_in (by omega)]; omega
    rw [fe_Fa_order_2, n_5, if_neg (n_leF (by omega) (by omega)), js_rwi o h1.1 h1.2, Option.bind_some, if_pos hin, js_rwi o h2.1 h2.2, Option.bind_some, if_pos hin, n_nat (by omega)]
    unfold j_od
    by_cases e : rw q1 i = rw q2 i
    · rw [if_pos e, if_pos e, n_1, n_add]
      exact c_od2 o h1 h2 n d (i + 1) (by omega) (by omega)
    · rw [if_neg e, if_neg e, Option.bind_some, if_pos hin, Option.bind_some, if_pos hin]
      unfold fn_Fa_order_30
      by_cases e2 : rw q2 i ≤ rw q1 i
      · rw [if_pos e2, if_pos e2]
      · rw [if_neg e2, if_neg e2]
theorem c_order (o : 75 ≤ g.1) (hN : 60 ≤ N) {q1 q2 : Nat} (h1 : 10 ≤ q1 ∧ q1 ≤ 40) (h2 : 10 ≤ q2 ∧ q2 ≤ 40) : fn_Fa_order N C (some q1) (some q2) (js g re rd un kn rf tr he mi fa sz ov room rv rw va sk) = some (j_od (rw q1) (rw q2) 5 0, js g re rd un kn rf tr he mi fa sz ov room rv rw va sk) := by
  unfold fn_Fa_order fn_Fa_order_0
  rw [n_0]
  exact c_od2 o h1 h2 5 N 0 (by omega) (by omega)
/-- the loop over the facts that are there -/
theorem c_of46 (o : 75 ≤ g.1) (hN : 60 ≤ N) (hra : ra_ok rv ra) {G : List j_R} {r : j_R} {q : Nat} (hq : q = ra G.length) (hG : fa_rep rw ra G) (hr : j_row (rw q) = r) (hroom : room ≤ 30) (v : Bool) : ∀ (n d i : Nat), i + n = G.length → n < d → (∀ j, j < i → ¬ G[j]? = some r) →
    fn_Fa_offer_46 N C 8 d (some q) (Int32.ofNat i) (js g re rd un kn rf tr he mi fa G.length (j_b v) room rv rw va sk) = some (0, js g re rd un kn rf tr he mi fa (j_off room r G v).1.length (j_b (j_off room r G v).2) room rv rw va sk)
  | n, 0, i, hi, hd, hj => absurd hd (by omega)
  | 0, d + 1, i, hi, hd, hj => by
    have hG30 := hG.1
    have hmem : ¬ r ∈ G := by
      intro hm
      obtain ⟨j, hj2⟩ := List.mem_iff_getElem?.mp hm
      have : j < G.length := (List.getElem?_eq_some_iff.mp hj2).1
      exact hj j (by omega) hj2
    rw [fe_Fa_offer_46, js_g8_1 o, Option.bind_some, if_pos (n_leT (by omega) (by omega)), Option.bind_some, js_g8_3 o, Option.bind_some]
    unfold fn_Fa_offer_106 j_off
    rw [if_neg hmem]
    by_cases e : room ≤ G.length
    · rw [if_pos e, if_neg (n_ltF (by omega) (by omega)), js_p8_2 o n_b1, Option.bind_some]
      rfl
    · rw [if_neg e, if_pos (n_ltT (by omega) (by omega)), Option.bind_some, n_1, n_add, js_p8_1 o, Option.bind_some]
      rw [List.length_append]
      rfl
  | n + 1, d + 1, i, hi, hd, hj => by
    have hG30 := hG.1
    have hi31 : i < 31 := by omega
    obtain ⟨r1, r2, r3⟩ := hra.1 i hi31
    obtain ⟨q1, q2, q3⟩ := hra.1 G.length (by omega)
    rw [← hq] at q1 q2 q3
    obtain ⟨x, hx⟩ : ∃ x, G[i]? = some x := ⟨G[i]'(by omega), List.getElem?_eq_getElem (by omega)⟩
    rw [fe_Fa_offer_46, js_g8_1 o, Option.bind_some, if_neg (n_leF (by omega) (by omega)), js_r8_0 o, Option.bind_some, js_ao o, Option.bind_some, if_pos (show md_in (Int32.ofNat i) 31 = true by rw [n_in (by omega)]; omega), n_nat (by omega)]
    dsimp only
    rw [r1, c_order o hN ⟨r2, r3⟩ ⟨q2, q3⟩, Option.bind_some]
    dsimp only
    by_cases e : j_od (rw (ra i)) (rw q) 5 0 = 0
    · have hmem : r ∈ G := by
        have h1 := j_od0.mp e
        rw [hr, hG.2 i x hx] at h1
        rw [← h1]
        exact List.mem_of_getElem? hx
      rw [if_pos e]
      unfold j_off
      rw [if_pos hmem]
    · rw [if_neg e, n_1, n_add]
      refine c_of46 o hN hra hq hG hr hroom v n d (i + 1) (by omega) (by omega) ?_
      intro j hj2 hg
      by_cases ej : j = i
      · subst ej
        apply e
        apply j_od0.mpr
        rw [hr, hG.2 j r hg]
      · exact hj j (by omega) hg
theorem c_offer (o : 75 ≤ g.1) (hN : 60 ≤ N) (hra : ra_ok rv ra) {G : List j_R} (hG : fa_rep rw ra G) (hroom : room ≤ 30) (v : Bool) {a : g_A} {b : Nat} (hb1 : 46 ≤ b) (hb2 : b < g.1) (hc : g.2.2 b = at_cell a) (x2 x3 x4 : Int32) :
    ∃ rw', fn_Fa_offer N C 8 (some b) x2 x3 x4 (js g re rd un kn rf tr he mi fa G.length (j_b v) room rv rw va sk) = some (0, js g re rd un kn rf tr he mi fa (j_off room (Int32.ofNat a.1, Int32.ofNat a.2.1, x2, x3, x4) G v).1.length (j_b (j_off room (Int32.ofNat a.1, Int32.ofNat a.2.1, x2, x3, x4) G v).2) room rv rw' va sk) ∧ fa_rep rw' ra (j_off room (Int32.ofNat a.1, Int32.ofNat a.2.1, x2, x3, x4) G v).1 := by
  have hG30 := hG.1
  obtain ⟨q1, q2, q3⟩ := hra.1 G.length (by omega)
  have ea : ∀ rw, ag_at (js g re rd un kn rf tr he mi fa G.length (j_b v) room rv rw va sk) (.ref b) = some (.inr (6, [.int (Int32.ofNat a.1), .int (Int32.ofNat a.2.1), .int (Int32.ofInt a.2.2.1), .int (Int32.ofInt a.2.2.2)])) := fun rw => pu_at (by omega) hb2 ((js_big (Or.inl hb1)).trans hc)
  have i0 : md_in (Int32.ofInt 0) 5 = true := by decide
  have i1 : md_in (Int32.ofInt 1) 5 = true := by decide
  have i2 : md_in (Int32.ofInt 2) 5 = true := by decide
  have i3 : md_in (Int32.ofInt 3) 5 = true := by decide
  have i4 : md_in (Int32.ofInt 4) 5 = true := by decide
  have up : ∀ rw f, ag_up (js g re rd un kn rf tr he mi fa G.length (j_b v) room rv rw va sk) (ra G.length) (.inl (0, 5, .inl f)) = js g re rd un kn rf tr he mi fa G.length (j_b v) room rv (rwu rw (ra G.length) f) va sk := fun rw f => js_uprow q2 q3
  unfold fn_Fa_offer fn_Fa_offer_0
  rw [js_r8_0 o, Option.bind_some, js_g8_1 o, Option.bind_some, js_ao o, Option.bind_some, if_pos (show md_in (Int32.ofNat G.length) 31 = true by rw [n_in (by omega)]; omega), n_nat (by omega)]
  dsimp only
  rw [q1, pu_gi (k := 0) (ea rw) rfl, Option.bind_some, js_rwi o q2 q3, Option.bind_some, if_pos i0, Option.getD_some]
  simp only [up, Option.bind_some, pu_gi (k := 1) (ea _) rfl, js_rwi o q2 q3, i1, i2, i3, i4, if_true, rwu_at, rwu_rwu]
  have hne : ∀ i, i < G.length → ra i ≠ ra G.length := fun i hi q => absurd (hra.2 i G.length (by omega) (by omega) q) (by omega)
  generalize hf : upd (upd (upd (upd (upd (rw (ra G.length)) (Int32.ofInt 0).toNatClampNeg (Int32.ofNat a.1)) (Int32.ofInt 1).toNatClampNeg (Int32.ofNat a.2.1)) (Int32.ofInt 2).toNatClampNeg x2) (Int32.ofInt 3).toNatClampNeg x3) (Int32.ofInt 4).toNatClampNeg x4 = f
  have hrow : j_row f = (Int32.ofNat a.1, Int32.ofNat a.2.1, x2, x3, x4) := by rw [← hf]; rfl
  have hrep : fa_rep (rwu rw (ra G.length) f) ra G := ⟨hG30, fun i r hi => by
    rw [rwu_ne (hne i (List.getElem?_eq_some_iff.mp hi).1)]
    exact hG.2 i r hi⟩
  refine ⟨rwu rw (ra G.length) f, ?_, ?_⟩
  · exact c_of46 (ra := ra) (r := (Int32.ofNat a.1, Int32.ofNat a.2.1, x2, x3, x4)) o hN hra rfl hrep (by rw [rwu_at]; exact hrow) hroom v G.length N 0 (by omega) (by omega) (fun j hj => absurd hj (by omega))
  · unfold j_off
    by_cases e1 : (Int32.ofNat a.1, Int32.ofNat a.2.1, x2, x3, x4) ∈ G
    · rw [if_pos e1]; exact hrep
    · rw [if_neg e1]
      by_cases e2 : room ≤ G.length
      · rw [if_pos e2]; exact hrep
      · rw [if_neg e2]
        refine ⟨by rw [List.length_append]; simp only [List.length_cons, List.length_nil]; omega, fun i r hi => ?_⟩
        by_cases ei : i = G.length
        · subst ei
          rw [List.getElem?_append_right (Nat.le_refl _), Nat.sub_self] at hi
          cases hi
          rw [rwu_at]; exact hrow
        · have hlt : i < G.length := by
            have := (List.getElem?_eq_some_iff.mp hi).1
            rw [List.length_append] at this
            simp only [List.length_cons, List.length_nil] at this
            omega
          rw [List.getElem?_append_left hlt] at hi
          exact hrep.2 i r hi
end OF
