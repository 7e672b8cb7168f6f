/-! ### The reference's complete -/
def j_hr (y : g_A) (oc : Int32 × (Nat → Int32)) : j_R := (Int32.ofNat y.1, Int32.ofNat y.2.1, j_val oc.2 y.2.2.1, j_val oc.2 y.2.2.2, oc.1)
def j_add (room : Nat) (x : g_Cl) (w : j_W) (oc : Int32 × (Nat → Int32)) : j_W := if j_wk oc.2 x.2.2.2.2 [] = 1 then (match x.2.2.1 with
  | none => w
  | some y => j_off room (j_hr y oc) w.1 w.2) else w
abbrev j_F : Type := Bool × Bool × Bool
def j_fl1 (x : g_Cl) (f : j_F) (oc : Int32 × (Nat → Int32)) : j_F := (f.1 || decide (j_wk oc.2 x.2.2.2.2 [] = 1), f.2.1 || decide (¬ j_wk oc.2 x.2.2.2.2 [] = 1), f.2.2 || decide (j_wk oc.2 x.2.2.2.2 [] = 2))
/-- the origins of the rows that are chosen -/
def og_ok (F : List j_R) (own : Int32) (a18 : Nat → Int32) : Nat → Int32 → Prop
  | 0, og => og = own
  | k + 1, og => ∃ (i : Nat) (r : j_R) (og' : Int32), a18 (k + 1) = Int32.ofNat i ∧ F[i]? = some r ∧ og_ok F own a18 k og' ∧ og = og' ||| r.2.2.2.2
theorem og_ext {F : List j_R} {own : Int32} {a18 b18 : Nat → Int32} : ∀ (k : Nat) (og : Int32), (∀ q, q ≤ k → b18 q = a18 q) → og_ok F own a18 k og → og_ok F own b18 k og
  | 0, _, _, h => h
  | k + 1, og, hb, ⟨i, r, og', h1, h2, h3, h4⟩ => ⟨i, r, og', (hb _ (Nat.le_refl _)).trans h1, h2, og_ext k og' (fun q hq => hb q (by omega)) h3, h4⟩
section MCO
variable {N : Nat} {S : MS} {fc od rn : Nat} {uf an ho fs al : Int32} {a17 a18 a19 a20 a21 : Nat → Int32}
theorem m_c96p {c n most : Nat} (hc : c ≤ 30) (hn3 : n ≤ 3) (h12 : S.2 12 c = Int32.ofNat n) {w : j_W} (hrp : m_rp a17 fc most w) (hmo : most ≤ 30) {F : List j_R} (hF : j_pre F w.1) {own : Int32} : ∀ (k : Nat) (og : Int32) (d : Nat), k ≤ n → og_ok F own a18 k og → fn_Md_complete_96 N (k + d) (Int32.ofNat c) own (Int32.ofNat 1) (ks S fc od rn uf an ho fs al a17 a18 a19 a20 a21) = fn_Md_complete_96 N d (Int32.ofNat c) og (Int32.ofNat (k + 1)) (ks S fc od rn uf an ho fs al a17 a18 a19 a20 a21)
  | 0, og, d, _, h => by
    have h : og = own := h
    rw [h, Nat.zero_add]
  | k + 1, og, d, hk, h => by
    obtain ⟨i, r, og', h1, h2, h3, h4⟩ := h
    have hr := hrp.2.2.2 i r (hF.2 i r h2)
    have hil : i < w.1.length := by
      by_cases e : i < w.1.length
      · exact e
      · have := hF.2 i r h2
        rw [List.getElem?_eq_none (by omega)] at this
        cases this
    have hl := hrp.1
    have ad1 : ∀ q : Nat, Int32.ofNat q + Int32.ofInt 1 = Int32.ofNat (q + 1) := fun q => by rw [n_1, n_add]
    rw [show k + 1 + d = k + (d + 1) by omega, m_c96p hc hn3 h12 hrp hmo hF k og' (d + 1) (by omega) h3, fe_Md_complete_96, ad1, if_pos (show md_in (Int32.ofNat c) (md_len 12) = true by rw [n_in (by omega), ml12]; omega), ks_h12, n_nat (by omega), h12, if_neg (n_ltF (by omega) (by omega)), if_pos (show md_in (Int32.ofNat (k + 1)) (md_len 18) = true by rw [n_in (by omega), ml18]; omega), ks_h18, n_nat (show k + 1 < 2147483648 by omega), h1, n_5, n_4, n_mul, n_add, if_pos (show md_in (Int32.ofNat (5 * i + 4)) (md_len 17) = true by rw [n_in (by omega), ml17]; omega), ks_h17, n_nat (by omega), h4, ← hr]
    rfl
theorem m_c96e {c n : Nat} (hc : c ≤ 30) (hn3 : n ≤ 3) (h12 : S.2 12 c = Int32.ofNat n) {y : g_A} (hy : am_rep (S.2 13) (16 * c) y) (hsz : a_sz y) (ht1 : j_tv y.2.2.1) (ht2 : j_tv y.2.2.2) {v : Nat → Int32} (hv1 : j_val a20 y.2.2.1 = j_val v y.2.2.1) (hv2 : j_val a20 y.2.2.2 = j_val v y.2.2.2) {og : Int32} {d : Nat} : fn_Md_complete_96 N (d + 1) (Int32.ofNat c) og (Int32.ofNat (n + 1)) (ks S fc od rn uf an ho fs al a17 a18 a19 a20 a21) = (fn_Md_add N (j_hr y (og, v)).1 (j_hr y (og, v)).2.1 (j_hr y (og, v)).2.2.1 (j_hr y (og, v)).2.2.2.1 (j_hr y (og, v)).2.2.2.2 (ks S fc od rn uf an ho fs al a17 a18 a19 a20 a21)).bind fun r => some (0, r.2) := by
  have i0 : md_in (Int32.ofNat (16 * c)) (md_len 13) = true := by rw [n_in (by omega), ml13]; omega
  have i1 : md_in (Int32.ofNat (16 * c + 1)) (md_len 13) = true := by rw [n_in (by omega), ml13]; omega
  have i2 : md_in (Int32.ofNat (16 * c + 2)) (md_len 13) = true := by rw [n_in (by omega), ml13]; omega
  have i3 : md_in (Int32.ofNat (16 * c + 3)) (md_len 13) = true := by rw [n_in (by omega), ml13]; omega
  have i12 : md_in (Int32.ofNat c) (md_len 12) = true := by rw [n_in (by omega), ml12]; omega
  obtain ⟨z1, z2, z3⟩ := hsz
  obtain ⟨g1, g2, g3, g4⟩ := hy
  rw [fe_Md_complete_96, if_pos i12, ks_h12, n_nat (by omega), h12, if_pos (n_ltT (by omega) (by omega)), n_c16, n_mul, n_1, n_2, n_add, n_add, if_pos i1, if_pos i0, if_pos i2, ks_h13, n_nat (by omega), n_nat (by omega), n_nat (by omega), g1, g2]
  unfold fn_Md_complete_183 fn_Md_complete_206 fn_Md_complete_211
  rw [n_3, n_add, if_pos i3, ks_h13, n_nat (by omega)]
  have hv0 : ∀ v : Nat → Int32, j_val v 0 = Int32.ofNat 0 := fun v => rfl
  by_cases s0 : y.2.1 = 0
  · rw [if_pos (show Int32.ofNat y.2.1 ≤ 0 from n_leT (b := 0) (by omega) (by omega)), n_1, if_pos (n_leT (by omega) (by omega))]
    have e1 := z3 s0
    have e2 := z2 (by omega)
    unfold j_hr
    rw [e1, e2, hv0]
    rfl
  · rw [if_neg (show ¬ Int32.ofNat y.2.1 ≤ 0 from n_leF (b := 0) (by omega) (by omega)), g3 (by omega), m_worth ht1, Option.bind_some]
    dsimp only
    by_cases s1 : y.2.1 ≤ 1
    · rw [n_1, if_pos (n_leT (by omega) (by omega))]
      have e2 := z2 s1
      unfold j_hr
      rw [e2, hv0, hv1]
      rfl
    · rw [n_1, if_neg (n_leF (by omega) (by omega)), if_pos i3, ks_h13, g4 (by omega), m_worth ht2, Option.bind_some, hv1, hv2]
      rfl
theorem m_c0 {c k : Nat} (hk : k ≤ 2) {f : j_F} {add : Bool} {b21 : Nat → Int32} (hcmp : fn_Md_compare N (Int32.ofNat c) (ks S fc od rn uf an (j_b f.1) (j_b f.2.2) (j_b (!f.2.1)) a17 a18 a19 a20 a21) = some (Int32.ofNat k, ks S fc od rn uf an (j_b f.1) (j_b f.2.2) (j_b (!f.2.1)) a17 a18 a19 a20 b21)) (hc : c ≤ 30) {p : Nat} (h10 : S.2 10 c = Int32.ofNat p) :
    fn_Md_complete N (Int32.ofNat c) (j_b add) (ks S fc od rn uf an (j_b f.1) (j_b f.2.2) (j_b (!f.2.1)) a17 a18 a19 a20 a21) = (if add = true ∧ k = 1 then fn_Md_complete_96 N N (Int32.ofNat c) (j_own p) (Int32.ofNat 1) (ks S fc od rn uf (j_b true) (j_b (f.1 || decide (k = 1))) (j_b (f.2.2 || decide (k = 2))) (j_b (!(f.2.1 || decide (¬ k = 1)))) a17 a18 a19 a20 b21) else some (0, ks S fc od rn uf (j_b true) (j_b (f.1 || decide (k = 1))) (j_b (f.2.2 || decide (k = 2))) (j_b (!(f.2.1 || decide (¬ k = 1)))) a17 a18 a19 a20 b21)) := by
  have i10 : md_in (Int32.ofNat c) (md_len 10) = true := by rw [n_in (by omega), ml10]; omega
  have ne10 : ¬ (1 : Int32) = 0 := by decide
  have jb1 : j_b true = Int32.ofInt 1 := rfl
  have jb0 : j_b false = Int32.ofInt 0 := rfl
  have e1 : ¬ (Int32.ofInt 1 : Int32) = 0 := n_ne10
  have e0 : (Int32.ofInt 0 : Int32) = 0 := rfl
  unfold fn_Md_complete fn_Md_complete_0
  rw [hcmp, Option.bind_some, if_pos n_b1]
  dsimp only
  unfold fn_Md_complete_24 fn_Md_complete_29 fn_Md_complete_45 fn_Md_complete_50 fn_Md_complete_70 fn_Md_complete_71 fn_Md_complete_211
  simp only [ks_u42, ks_u43, ks_u44, ks_u45, ks_pr, ks_g43, ks_g44, ks_g45, if_pos n_b0, if_pos n_b1, i10, if_true, ks_h10, n_nat (show c < 2147483648 by omega), h10]
  obtain ⟨f1, f2, f3⟩ := f
  have hk' : k = 0 ∨ k = 1 ∨ k = 2 := by omega
  rcases hk' with rfl | rfl | rfl <;> cases f1 <;> cases f2 <;> cases f3 <;> cases add <;> rfl
theorem j_val_av {m : Nat} {va v : Nat → Int32} (ha : av m va v) {t : Int} (ht : j_tv t) (hb : ¬ t < 1048576 → m.testBit (j_ix t) = true) : j_val va t = j_val v t := by
  unfold j_val
  by_cases e : t < 1048576
  · rw [if_pos e, if_pos e]
  · rw [if_neg e, if_neg e]
    exact ha _ (j_ix_lt ht e).1 (hb e)
theorem m_complete (hN : 60 ≤ N) {c p most : Nat} (hc : c ≤ 30) (hmo : most ≤ 30) (h7 : S.1 7 = Int32.ofNat most) (h10 : S.2 10 c = Int32.ofNat p) {x : g_Cl} (hx : mc_rep S c x) (hok : cl_ok x) (hh : ∀ y, x.2.2.1 = some y → a_sz y) {w : j_W} (hrp : m_rp a17 fc most w) {F : List j_R} (hF : j_pre F w.1) {og : Int32} (hog : og_ok F (j_own p) a18 x.2.2.2.1.length og) {m : Nat} {v : Nat → Int32} (hav : av m a20 v) (hm : ∀ i, (j_bm x.2.2.2.1).testBit i = true → m.testBit i = true) (hvb : v_bd m v) {f : j_F} {add : Bool} (hadd : add = true → ∃ y, x.2.2.1 = some y) :
    ∃ fc' a17' a21', fn_Md_complete N (Int32.ofNat c) (j_b add) (ks S fc od rn uf an (j_b f.1) (j_b f.2.2) (j_b (!f.2.1)) a17 a18 a19 a20 a21) = some (0, ks S fc' od rn uf (j_b true) (j_b (j_fl1 x f (og, v)).1) (j_b (j_fl1 x f (og, v)).2.2) (j_b (!(j_fl1 x f (og, v)).2.1)) a17' a18 a19 a20 a21') ∧ m_rp a17' fc' most (if add = true then j_add most x w (og, v) else w) := by
  obtain ⟨o1, o2, o3, o4, o5, o6, o7⟩ := hok
  obtain ⟨x1, x2, x3, x4, x5, x6, x7⟩ := hx
  obtain ⟨b21, kc⟩ := m_compare (N := N) (S := S) (fc := fc) (od := od) (rn := rn) (uf := uf) (an := an) (ho := j_b f.1) (fs := j_b f.2.2) (al := j_b (!f.2.1)) (a17 := a17) (a18 := a18) (a19 := a19) (a20 := a20) hN hc (v := v) (a21 := a21) x6 x7 o4 o5 o6 (fun z hz h => by
    have htz : j_tv z := by
      rcases o6 z hz with ⟨_, h2⟩ | h2
      · exact h2
      · omega
    have h8 := (j_ix_lt htz h).1
    have hb := hm _ (o7 z hz h)
    have hb2 := hvb _ h8 hb
    exact ⟨hav _ h8 hb, by unfold j_bd; omega⟩)
  have hk := j_wk_le v x.2.2.2.2 []
  rw [m_c0 hk kc hc h10]
  by_cases ea : add = true ∧ j_wk v x.2.2.2.2 [] = 1
  · rw [if_pos ea, if_pos ea.1]
    obtain ⟨y, hy⟩ := hadd ea.1
    obtain ⟨q1, q2, q3, q4⟩ := o3 y hy
    obtain ⟨N', hN'⟩ : ∃ N', N = x.2.2.2.1.length + (N' + 1) := ⟨N - x.2.2.2.1.length - 1, by omega⟩
    have e1 : j_add most x w (og, v) = j_off most (j_hr y (og, v)) w.1 w.2 := by
      unfold j_add
      rw [if_pos ea.2, hy]
    obtain ⟨fc', a17', k1, k2⟩ := m_add (N := N) (S := S) (od := od) (rn := rn) (uf := uf) (an := j_b true) (ho := j_b (f.1 || decide (j_wk v x.2.2.2.2 [] = 1))) (fs := j_b (f.2.2 || decide (j_wk v x.2.2.2.2 [] = 2))) (al := j_b (!(f.2.1 || decide (¬ j_wk v x.2.2.2.2 [] = 1)))) (a18 := a18) (a19 := a19) (a20 := a20) (a21 := b21) hN h7 hmo hrp (j_hr y (og, v))
    have e2 : ∀ K : Nat, K = x.2.2.2.1.length + (N' + 1) → fn_Md_complete_96 N K (Int32.ofNat c) (j_own p) (Int32.ofNat 1) (ks S fc od rn uf (j_b true) (j_b (f.1 || decide (j_wk v x.2.2.2.2 [] = 1))) (j_b (f.2.2 || decide (j_wk v x.2.2.2.2 [] = 2))) (j_b (!(f.2.1 || decide (¬ j_wk v x.2.2.2.2 [] = 1)))) a17 a18 a19 a20 b21) = some (0, ks S fc' od rn uf (j_b true) (j_b (f.1 || decide (j_wk v x.2.2.2.2 [] = 1))) (j_b (f.2.2 || decide (j_wk v x.2.2.2.2 [] = 2))) (j_b (!(f.2.1 || decide (¬ j_wk v x.2.2.2.2 [] = 1)))) a17' a18 a19 a20 b21) := by
      intro K hK
      rw [hK, m_c96p hc o1 x3 hrp hmo hF _ og _ (Nat.le_refl _) hog, m_c96e hc o1 x3 (x4 y hy) (hh y hy) q1 q2 (v := v) (j_val_av hav q1 (fun h => hm _ (q3 h))) (j_val_av hav q2 (fun h => hm _ (q4 h))), k1]
      rfl
    rw [e1, e2 N hN']
    exact ⟨fc', a17', b21, rfl, k2⟩
  · rw [if_neg ea]
    refine ⟨fc, a17, b21, rfl, ?_⟩
    by_cases e3 : add = true
    · rw [if_pos e3]
      unfold j_add
      rw [if_neg (show ¬ j_wk v x.2.2.2.2 [] = 1 from fun q => ea ⟨e3, q⟩)]
      exact hrp
    · rw [if_neg e3]
      exact hrp
end MCO
