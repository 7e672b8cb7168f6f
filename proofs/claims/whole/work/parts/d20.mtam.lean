/-! ### tamper: the reference's side -/
def sw (a : Nat → Int32) (p q : Nat) : Nat → Int32 := upd (upd a p (a q)) q (a p)
def swn (a : Nat → Int32) (p q k : Nat) : Nat → Int32 := fun j => if q ≤ j ∧ j < q + k then a (p + (j - q)) else if p ≤ j ∧ j < p + k then a (q + (j - p)) else a j
theorem swn_0 (a : Nat → Int32) (p q : Nat) : swn a p q 0 = a := by
  funext j
  unfold swn
  rw [if_neg (by omega), if_neg (by omega)]
theorem swn_s {a : Nat → Int32} {p q k : Nat} (h : p = q ∨ p + 5 ≤ q ∨ q + 5 ≤ p) (hk : k < 5) : sw (swn a p q k) (p + k) (q + k) = swn a p q (k + 1) := by
  have e1 : swn a p q k (p + k) = a (p + k) := by
    unfold swn
    rw [if_neg (by omega), if_neg (by omega)]
  have e2 : swn a p q k (q + k) = a (q + k) := by
    unfold swn
    rw [if_neg (by omega), if_neg (by omega)]
  funext j
  unfold sw
  rw [e1, e2]
  by_cases c1 : j = q + k
  · rw [c1, upd_eq]
    unfold swn
    rw [if_pos (by omega)]
    congr 1
    omega
  · rw [upd_ne c1]
    by_cases c2 : j = p + k
    · rw [c2, upd_eq]
      unfold swn
      by_cases c3 : q ≤ p + k ∧ p + k < q + (k + 1)
      · exact absurd c1 (by omega)
      · rw [if_neg c3, if_pos (by omega)]
        congr 1
        omega
    · rw [upd_ne c2]
      unfold swn
      by_cases c3 : q ≤ j ∧ j < q + k
      · rw [if_pos c3, if_pos (by omega)]
      · rw [if_neg c3, if_neg (show ¬ (q ≤ j ∧ j < q + (k + 1)) by omega)]
        by_cases c4 : p ≤ j ∧ j < p + k
        · rw [if_pos c4, if_pos (by omega)]
        · rw [if_neg c4, if_neg (by omega)]
theorem set2_get {α : Type} {L : List α} {a b k : Nat} {v w z : α} (h : ((L.set a v).set b w)[k]? = some z) : (k = b ∧ z = w) ∨ (k ≠ b ∧ k = a ∧ z = v) ∨ (k ≠ b ∧ k ≠ a ∧ L[k]? = some z) := by
  by_cases c1 : k = b
  · subst c1
    have hl := (List.getElem?_eq_some_iff.mp h).1
    rw [List.length_set] at hl
    rw [List.getElem?_set_self hl] at h
    exact Or.inl ⟨rfl, (Option.some.inj h).symm⟩
  · rw [List.getElem?_set_ne (Ne.symm c1)] at h
    by_cases c2 : k = a
    · subst c2
      have hl := (List.getElem?_eq_some_iff.mp h).1
      rw [List.length_set] at hl
      rw [List.getElem?_set_self hl] at h
      exact Or.inr (Or.inl ⟨c1, rfl, (Option.some.inj h).symm⟩)
    · rw [List.getElem?_set_ne (Ne.symm c2)] at h
      exact Or.inr (Or.inr ⟨c1, c2, h⟩)
theorem set1_get {α : Type} {L : List α} {a k : Nat} {v z : α} (h : (L.set a v)[k]? = some z) : (k = a ∧ z = v) ∨ (k ≠ a ∧ L[k]? = some z) := by
  by_cases c2 : k = a
  · subst c2
    have hl := (List.getElem?_eq_some_iff.mp h).1
    rw [List.length_set] at hl
    rw [List.getElem?_set_self hl] at h
    exact Or.inl ⟨rfl, (Option.some.inj h).symm⟩
  · rw [List.getElem?_set_ne (Ne.symm c2)] at h
    exact Or.inr ⟨c2, h⟩
section MTA
variable {N : Nat} {S : MS} {th : Int32} {de bl ke to : Nat} {a1 a2 a3 a4 a5 a6 a7 a8 : Nat → Int32}
theorem m_change {t a b j : Nat} (ht : t ≤ 16) (ha : a ≤ 3) (hb : b ≤ 3) (hj : j ≤ 4) : fn_Md_change N (Int32.ofNat t) (Int32.ofNat a) (Int32.ofNat b) (Int32.ofNat j) (ts S th de bl ke to a1 a2 a3 a4 a5 a6 a7 a8) = some (0, ts S th de bl ke to a1 a2 a3 a4 (sw a5 (20 * t + 5 * a + j) (20 * t + 5 * b + j)) a6 a7 a8) := by
  have i0 : md_in (Int32.ofNat (20 * t + 5 * a + j)) (md_len 5) = true := by rw [n_in (by omega), mL5]; omega
  have i1 : md_in (Int32.ofNat (20 * t + 5 * b + j)) (md_len 5) = true := by rw [n_in (by omega), mL5]; omega
  unfold fn_Md_change fn_Md_change_0
  simp only [n_c20, n_5, n_mul, n_add, i0, i1, if_true, n_nat (show 20 * t + 5 * a + j < 2147483648 by omega), n_nat (show 20 * t + 5 * b + j < 2147483648 by omega), ts_h5, ts_v5, ts_pr]
  rfl
theorem m_tm200 {t a b : Nat} (ht : t ≤ 16) (ha : a ≤ 3) (hb : b ≤ 3) {how : Int32} {e : Nat} (he : e ≤ 5) (hw : (how = Int32.ofInt 1 ∧ e = 1) ∨ (¬ how = Int32.ofInt 1 ∧ e = 5)) : ∀ (n d k : Nat), k + n = e → n < d → fn_Md_tamper_200 N d how (Int32.ofNat a) (Int32.ofNat b) (Int32.ofNat t) (Int32.ofNat k) (ts S th de bl ke to a1 a2 a3 a4 (swn a5 (20 * t + 5 * a) (20 * t + 5 * b) k) a6 a7 a8) = some (Int32.ofNat t, ts S th de bl ke to a1 a2 a3 a4 (swn a5 (20 * t + 5 * a) (20 * t + 5 * b) e) a6 a7 a8) := by
  have h200 : ∀ (d k : Nat) (T : MS), fn_Md_tamper_200 N (d + 1) how (Int32.ofNat a) (Int32.ofNat b) (Int32.ofNat t) (Int32.ofNat k) T = fn_Md_tamper_212 N (fn_Md_tamper_200 N d) how (Int32.ofNat a) (Int32.ofNat b) (Int32.ofNat t) (Int32.ofNat k) (Int32.ofNat k) (Int32.ofNat e) T := by
    intro d k T
    rw [fe_Md_tamper_200]
    rcases hw with ⟨h1, h2⟩ | ⟨h1, h2⟩
    · rw [if_pos h1, h2]; rfl
    · rw [if_neg h1, h2]; rfl
  intro n
  induction n with
  | zero =>
    intro d k hk hd
    obtain ⟨d, rfl⟩ : ∃ d', d = d' + 1 := ⟨d - 1, by omega⟩
    obtain rfl : k = e := by omega
    rw [h200]
    unfold fn_Md_tamper_212 fn_Md_tamper_364
    rw [if_pos (n_leT (Nat.le_refl _) (by omega))]
  | succ n ih =>
    intro d k hk hd
    obtain ⟨d, rfl⟩ : ∃ d', d = d' + 1 := ⟨d - 1, by omega⟩
    rw [h200]
    unfold fn_Md_tamper_212
    rw [if_neg (n_leF (by omega) (by omega)), m_change ht ha hb (by omega), Option.bind_some, swn_s (by omega) (by omega), n_1, n_add]
    exact ih d (k + 1) (by omega) (by omega)
variable {lc : Nat → Nat} {ln : Nat} {M : List g_Cl} {Bs : List (List g_Cl)} {D : List g_Cl} {Ts : List w_T} {K most more : Nat} {re : Int32} {rd : Nat} {un : Int32} {G : List j_R}
theorem m_tm155r {s1 : Int32} (hs : ¬ s1 ≤ 0) (x1 x2 x3 x4 : Int32) : fn_Md_tamper_155 N x1 x2 x3 x4 s1 S = some (Int32.ofInt 0, (va_up S.1 0 s1, S.2)) := by
  unfold fn_Md_tamper_155
  exact if_neg hs
theorem m_tm155 (hN : 60 ≤ N) (h : mI S lc ln M Bs D Ts K most more re rd un G) (ok : g_ok lc ln M Bs D Ts K most more) (hT : Ts.length < 16) {t : Nat} {T : w_T} (ht : Ts[t]? = some T) {how a b : Int32} (hc : w_can T.1.length how a b = true) : ∃ S', fn_Md_tamper_155 N (Int32.ofNat t) how a b (Int32.ofInt 0) S = some (Int32.ofNat Ts.length, S') ∧ S'.1 0 = Int32.ofInt 0 ∧ mI S' lc ln M Bs D (Ts ++ [(w_tm T how a b Bs.length K).1]) (w_tm T how a b Bs.length K).2 most more re rd un G := by
  have e0 := mI_ts h (Int32.ofInt 0)
  obtain ⟨⟨h4, h5, h6, h7, h8, h9⟩, hL, hB, hT', hJ⟩ := h
  have htl := (List.getElem?_eq_some_iff.mp ht).1
  have hTl := (ok.2.2.2.2.1.2 T (List.mem_of_getElem? ht)).1
  have ht1 := hT'.1 t T ht
  obtain ⟨w1, w2⟩ := w_can_a (by omega) hc
  obtain ⟨r1, r2, r3, r4, r5⟩ := mT1_like (u := Ts.length) hTl.2 ht1
  have i4 : md_in (Int32.ofNat Ts.length) (md_len 4) = true := by rw [n_in (by omega), mL4]; omega
  have i6 : md_in (Int32.ofNat Ts.length) (md_len 6) = true := by rw [n_in (by omega), mL6]; omega
  have i7 : md_in (Int32.ofNat Ts.length) (md_len 7) = true := by rw [n_in (by omega), mL7]; omega
  have nu : (Int32.ofNat Ts.length).toNatClampNeg = Ts.length := n_nat (by omega)
  have hlk := m_like (N := N) (S := S) (th := Int32.ofInt 0) (de := D.length) (bl := Bs.length) (ke := K) (to := Ts.length) (a1 := S.2 1) (a2 := S.2 2) (a3 := S.2 3) (a4 := S.2 4) (a5 := S.2 5) (a6 := S.2 6) (a7 := S.2 7) (a8 := S.2 8) hN htl (by omega) ht1.2.1
  have f4 : ∀ q, q ≠ Ts.length → upd (S.2 4) Ts.length (S.2 4 t) q = S.2 4 q := fun q hq => upd_ne hq
  have f6 : ∀ q, q ≠ Ts.length → upd (S.2 6) Ts.length (S.2 6 t) q = S.2 6 q := fun q hq => upd_ne hq
  have f7 : ∀ q, q ≠ Ts.length → upd (S.2 7) Ts.length (S.2 7 t) q = S.2 7 q := fun q hq => upd_ne hq
  have f8 : ∀ q, q ≠ Ts.length → upd (S.2 8) Ts.length (S.2 8 t) q = S.2 8 q := fun q hq => upd_ne hq
  have f5 : ∀ q, q < 20 * Ts.length → cp20 (S.2 5) t Ts.length 20 q = S.2 5 q := fun q hq => cp20_ne (by omega)
  generalize upd (S.2 4) Ts.length (S.2 4 t) = c4 at hlk r1 f4
  generalize cp20 (S.2 5) t Ts.length 20 = c5 at hlk r5 f5
  generalize upd (S.2 6) Ts.length (S.2 6 t) = c6 at hlk r2 f6
  generalize upd (S.2 7) Ts.length (S.2 7 t) = c7 at hlk r3 f7
  generalize upd (S.2 8) Ts.length (S.2 8 t) = c8 at hlk r4 f8
  have fin : ∀ (b4 b5 b6 b7 : Nat → Int32) (K' : Nat) (T' : w_T), (∀ q, q ≠ Ts.length → b4 q = S.2 4 q ∧ b6 q = S.2 6 q ∧ b7 q = S.2 7 q) → (∀ q, q < 20 * Ts.length → b5 q = S.2 5 q) → mT1 b4 b5 b6 b7 c8 Ts.length T' → mI (ts S (Int32.ofInt 0) D.length Bs.length K' (Ts.length + 1) (S.2 1) (S.2 2) (S.2 3) b4 b5 b6 b7 c8) lc ln M Bs D (Ts ++ [T']) K' most more re rd un G := by
    intro b4 b5 b6 b7 K' T' g1 g2 g3
    exact ⟨⟨rfl, rfl, rfl, h7, h8, by rw [List.length_append]; rfl⟩, hL, hB, mT_snoc hT' (fun T hT => (ok.2.2.2.2.1.2 T hT).1.2) (fun q hq => ⟨(g1 q (by omega)).1, (g1 q (by omega)).2.1, (g1 q (by omega)).2.2, f8 q (by omega)⟩) g2 g3 (fun q hq => f8 q (by omega)), hJ⟩
  have keep4 : ∀ q, q ≠ Ts.length → c4 q = S.2 4 q ∧ c6 q = S.2 6 q ∧ c7 q = S.2 7 q := fun q hq => ⟨f4 q hq, f6 q hq, f7 q hq⟩
  unfold fn_Md_tamper_155 fn_Md_tamper_364
  rw [e0, ts_g0, if_pos (show Int32.ofInt 0 ≤ 0 by decide), hlk, Option.bind_some]
  dsimp only
  unfold w_tm
  by_cases e00 : how = (0 : Int32)
  · have hn := w1 e00
    rw [if_pos e00, if_pos e00, if_pos i4, if_pos i4, nu, ts_h4, r1, n_1, n_sub (by omega), ts_v4, ts_pr]
    refine ⟨_, rfl, rfl, fin _ _ _ _ K _ (fun q hq => ⟨(upd_ne hq).trans (f4 q hq), f6 q hq, f7 q hq⟩) f5 ⟨?_, r2, r3, r4, fun k l hk => ?_⟩⟩
    · rw [upd_eq]
      show _ = Int32.ofNat (T.1.take (T.1.length - 1)).length
      rw [List.length_take]
      congr 1
      omega
    · have hk' : (T.1.take (T.1.length - 1))[k]? = some l := hk
      have hkl := (List.getElem?_eq_some_iff.mp hk').1
      rw [List.length_take] at hkl
      rw [List.getElem?_take_of_lt (by omega)] at hk'
      exact r5 k l hk'
  rw [if_neg e00, if_neg e00]
  obtain ⟨⟨w3, w4⟩, ⟨i, hi, rfl⟩, w5⟩ := w2 e00
  have hgi := w_k_get hi (by omega)
  have hri := r5 i _ hgi
  rw [n_nat (show i < 2147483648 by omega)]
  by_cases e1 : how = (1 : Int32)
  · obtain ⟨j, hj, rfl⟩ := w5 (Or.inl e1)
    have hgj := w_k_get hj (by omega)
    have hrj := r5 j _ hgj
    have k1 := m_tm200 (N := N) (S := S) (th := Int32.ofInt 0) (de := D.length) (bl := Bs.length) (ke := K) (to := Ts.length + 1) (a1 := S.2 1) (a2 := S.2 2) (a3 := S.2 3) (a4 := c4) (a5 := c5) (a6 := c6) (a7 := c7) (a8 := c8) (t := Ts.length) (a := i) (b := j) (by omega) (by omega) (by omega) (how := how) (e := 1) (by omega) (Or.inl ⟨e1, rfl⟩) 1 N 0 (by omega) (by omega)
    rw [swn_0] at k1
    rw [if_neg (show ¬ Int32.ofInt 3 ≤ how by rw [e1]; decide), if_pos e1, n_nat (show j < 2147483648 by omega)]
    have k1' : fn_Md_tamper_200 N N how (Int32.ofNat i) (Int32.ofNat j) (Int32.ofNat Ts.length) (Int32.ofInt 0) (ts S (Int32.ofInt 0) D.length Bs.length K (Ts.length + 1) (S.2 1) (S.2 2) (S.2 3) c4 c5 c6 c7 c8) = _ := k1
    rw [k1']
    refine ⟨_, rfl, rfl, fin _ _ _ _ K _ keep4 (fun q hq => ?_) ⟨by rw [r1]; show _ = Int32.ofNat ((T.1.set _ _).set _ _).length; rw [List.length_set, List.length_set], r2, r3, r4, fun k l hk => ?_⟩⟩
    · unfold swn
      rw [if_neg (by omega), if_neg (by omega)]
      exact f5 q hq
    · have ex : ∀ q, (q < 20 * Ts.length + 5 * j ∨ 20 * Ts.length + 5 * j + 1 ≤ q) → (q < 20 * Ts.length + 5 * i ∨ 20 * Ts.length + 5 * i + 1 ≤ q) → swn c5 (20 * Ts.length + 5 * i) (20 * Ts.length + 5 * j) 1 q = c5 q := fun q h1 h2 => by
        unfold swn
        rw [if_neg (by omega), if_neg (by omega)]
      rcases set2_get hk with ⟨rfl, rfl⟩ | ⟨c1, rfl, rfl⟩ | ⟨c1, c2, hk'⟩
      · obtain ⟨q1, q2, q3, q4, q5⟩ := hrj
        refine ⟨?_, (ex _ (by omega) (by omega)).trans q2, (ex _ (by omega) (by omega)).trans q3, (ex _ (by omega) (by omega)).trans q4, (ex _ (by omega) (by omega)).trans q5⟩
        unfold swn
        rw [if_pos (by omega), Nat.sub_self, Nat.add_zero]
        exact hri.1
      · obtain ⟨q1, q2, q3, q4, q5⟩ := hri
        refine ⟨?_, (ex _ (by omega) (by omega)).trans q2, (ex _ (by omega) (by omega)).trans q3, (ex _ (by omega) (by omega)).trans q4, (ex _ (by omega) (by omega)).trans q5⟩
        unfold swn
        rw [if_neg (by omega), if_pos (by omega), Nat.sub_self, Nat.add_zero]
        exact hrj.1
      · exact lk5_ext (fun q h1 h2 => ex q (by omega) (by omega)) (r5 k l hk')
  rw [if_neg e1]
  by_cases e2 : how = (2 : Int32)
  · obtain ⟨j, hj, rfl⟩ := w5 (Or.inr e2)
    have hgj := w_k_get hj (by omega)
    have hrj := r5 j _ hgj
    have k1 := m_tm200 (N := N) (S := S) (th := Int32.ofInt 0) (de := D.length) (bl := Bs.length) (ke := K) (to := Ts.length + 1) (a1 := S.2 1) (a2 := S.2 2) (a3 := S.2 3) (a4 := c4) (a5 := c5) (a6 := c6) (a7 := c7) (a8 := c8) (t := Ts.length) (a := i) (b := j) (by omega) (by omega) (by omega) (how := how) (e := 5) (by omega) (Or.inr ⟨e1, rfl⟩) 5 N 0 (by omega) (by omega)
    rw [swn_0] at k1
    rw [if_neg (show ¬ Int32.ofInt 3 ≤ how by rw [e2]; decide), if_pos e2, n_nat (show j < 2147483648 by omega)]
    have k1' : fn_Md_tamper_200 N N how (Int32.ofNat i) (Int32.ofNat j) (Int32.ofNat Ts.length) (Int32.ofInt 0) (ts S (Int32.ofInt 0) D.length Bs.length K (Ts.length + 1) (S.2 1) (S.2 2) (S.2 3) c4 c5 c6 c7 c8) = _ := k1
    rw [k1']
    refine ⟨_, rfl, rfl, fin _ _ _ _ K _ keep4 (fun q hq => ?_) ⟨by rw [r1]; show _ = Int32.ofNat ((T.1.set _ _).set _ _).length; rw [List.length_set, List.length_set], r2, r3, r4, fun k l hk => ?_⟩⟩
    · unfold swn
      rw [if_neg (by omega), if_neg (by omega)]
      exact f5 q hq
    · rcases set2_get hk with ⟨rfl, rfl⟩ | ⟨c1, rfl, rfl⟩ | ⟨c1, c2, hk'⟩
      · have ex : ∀ m, m < 5 → swn c5 (20 * Ts.length + 5 * i) (20 * Ts.length + 5 * k) 5 (20 * Ts.length + 5 * k + m) = c5 (20 * Ts.length + 5 * i + m) := fun m hm => by
          unfold swn
          rw [if_pos (by omega)]
          congr 1
          omega
        obtain ⟨q1, q2, q3, q4, q5⟩ := hri
        exact ⟨(ex 0 (by omega)).trans q1, (ex 1 (by omega)).trans q2, (ex 2 (by omega)).trans q3, (ex 3 (by omega)).trans q4, (ex 4 (by omega)).trans q5⟩
      · have ex : ∀ m, m < 5 → swn c5 (20 * Ts.length + 5 * k) (20 * Ts.length + 5 * j) 5 (20 * Ts.length + 5 * k + m) = c5 (20 * Ts.length + 5 * j + m) := fun m hm => by
          unfold swn
          rw [if_neg (by omega), if_pos (by omega)]
          congr 1
          omega
        obtain ⟨q1, q2, q3, q4, q5⟩ := hrj
        exact ⟨(ex 0 (by omega)).trans q1, (ex 1 (by omega)).trans q2, (ex 2 (by omega)).trans q3, (ex 3 (by omega)).trans q4, (ex 4 (by omega)).trans q5⟩
      · refine lk5_ext (fun q h1 h2 => ?_) (r5 k l hk')
        unfold swn
        rw [if_neg (by omega), if_neg (by omega)]
  rw [if_neg e2]
  have h3le : Int32.ofInt 3 ≤ how := by
    have hne0 : how.toInt ≠ 0 := fun q => e00 (Int32.toInt_inj.mp q)
    have hne1 : how.toInt ≠ 1 := fun q => e1 (Int32.toInt_inj.mp q)
    have hne2 : how.toInt ≠ 2 := fun q => e2 (Int32.toInt_inj.mp q)
    rw [Int32.lt_iff_toInt_lt] at w3
    rw [Int32.le_iff_toInt_le]
    have z0 : (0 : Int32).toInt = 0 := rfl
    have z3 : (Int32.ofInt 3).toInt = 3 := rfl
    omega
  rw [if_pos h3le]
  have nq : ∀ j, j ≤ 4 → (Int32.ofNat (20 * Ts.length + 5 * i + j)).toNatClampNeg = 20 * Ts.length + 5 * i + j := fun j hj => n_nat (by omega)
  have iq : ∀ j, j ≤ 4 → md_in (Int32.ofNat (20 * Ts.length + 5 * i + j)) (md_len 5) = true := fun j hj => by rw [n_in (by omega), mL5]; omega
  rw [n_c20, n_5, n_mul, n_mul, n_add, n_1, n_add]
  by_cases e3 : how = (3 : Int32)
  · rw [if_pos (show how = Int32.ofInt 3 from e3), if_pos e3, if_pos (show md_in (Int32.ofNat (20 * Ts.length + 5 * i)) (md_len 5) = true from iq 0 (by omega)), ts_h5, ts_g5, ts_v5, ts_pr, n_nat (show 20 * Ts.length + 5 * i < 2147483648 by omega)]
    refine ⟨_, rfl, rfl, fin _ _ _ _ K _ keep4 (fun q hq => (upd_ne (by omega)).trans (f5 q hq)) ⟨by rw [r1]; show _ = Int32.ofNat (T.1.set _ _).length; rw [List.length_set], r2, r3, r4, fun k l hk => ?_⟩⟩
    rcases set1_get hk with ⟨rfl, rfl⟩ | ⟨c1, hk'⟩
    · obtain ⟨q1, q2, q3, q4, q5⟩ := hri
      exact ⟨upd_eq _ _ _, (upd_ne (by omega)).trans q2, (upd_ne (by omega)).trans q3, (upd_ne (by omega)).trans q4, (upd_ne (by omega)).trans q5⟩
    · exact lk5_ext (fun q h1 h2 => upd_ne (by omega)) (r5 k l hk')
  rw [if_neg (show ¬ how = Int32.ofInt 3 from e3), if_neg e3]
  by_cases e6 : how = (Int8.ofInt (6)).toInt32
  · have e4 : ¬ how = (4 : Int32) := by rw [e6]; decide
    have e5 : ¬ how = (5 : Int32) := by rw [e6]; decide
    have hl0 : fn_Md_link N (Int32.ofNat Ts.length) (Int32.ofNat i) (Int32.ofInt 0) (ts S (Int32.ofInt 0) D.length Bs.length K (Ts.length + 1) (S.2 1) (S.2 2) (S.2 3) c4 c5 c6 c7 c8) = some ((w_k T (Int32.ofNat i)).1, ts S (Int32.ofInt 0) D.length Bs.length K (Ts.length + 1) (S.2 1) (S.2 2) (S.2 3) c4 c5 c6 c7 c8) := by
      unfold fn_Md_link fn_Md_link_0
      rw [n_c20, n_5, n_mul, n_mul, n_add, n_0, n_add, if_pos (iq 0 (by omega)), nq 0 (by omega), ts_h5, Nat.add_zero, hri.1]
    have hl1 : fn_Md_link N (Int32.ofNat Ts.length) (Int32.ofNat i) (Int32.ofNat 1) (ts S (Int32.ofInt 0) D.length Bs.length K (Ts.length + 1) (S.2 1) (S.2 2) (S.2 3) c4 c5 c6 c7 c8) = some ((w_k T (Int32.ofNat i)).2.1, ts S (Int32.ofInt 0) D.length Bs.length K (Ts.length + 1) (S.2 1) (S.2 2) (S.2 3) c4 c5 c6 c7 c8) := by
      unfold fn_Md_link fn_Md_link_0
      rw [n_c20, n_5, n_mul, n_mul, n_add, n_add, if_pos (iq 1 (by omega)), nq 1 (by omega), ts_h5, hri.2.1]
    have hsl := m_setLink (N := N) (S := S) (th := Int32.ofInt 0) (de := D.length) (bl := Bs.length) (ke := K) (to := Ts.length + 1) (a1 := S.2 1) (a2 := S.2 2) (a3 := S.2 3) (a4 := c4) (a5 := c5) (a6 := c6) (a7 := c7) (a8 := c8) (t := Ts.length) (k := i) (by omega) (by omega) (w_k T (Int32.ofNat i)).1 (w_k T (Int32.ofNat i)).2.1 T.2.2.1
    rw [if_pos e6, if_neg e4, if_neg e5, hl0, Option.bind_some]
    dsimp only
    rw [hl1, Option.bind_some]
    dsimp only
    rw [if_pos i7, nu, ts_h7, r3, hsl, Option.bind_some]
    refine ⟨_, rfl, rfl, fin _ _ _ _ K _ keep4 (fun q hq => (set5_ne (by omega)).trans (f5 q hq)) ⟨by rw [r1]; show _ = Int32.ofNat (T.1.set _ _).length; rw [List.length_set], r2, r3, r4, fun k l hk => ?_⟩⟩
    rcases set1_get hk with ⟨rfl, rfl⟩ | ⟨c1, hk'⟩
    · exact set5_at _ _ _
    · exact lk5_ext (fun q h1 h2 => set5_ne (by omega)) (r5 k l hk')
  rw [if_neg e6, if_pos (iq 1 (by omega))]
  by_cases e4 : how = (4 : Int32)
  · rw [if_neg (show ¬ how = Int32.ofNat 5 by rw [e4]; decide), if_pos e4]
    simp only [ts_g6, n_add, ts_u6, ts_pr, nq 1 (by omega), ts_h5, ts_v5]
    refine ⟨_, rfl, rfl, fin _ _ _ _ (K + 1) _ keep4 (fun q hq => (upd_ne (by omega)).trans (f5 q hq)) ⟨by rw [r1]; show _ = Int32.ofNat (T.1.set _ _).length; rw [List.length_set], r2, r3, r4, fun k l hk => ?_⟩⟩
    rcases set1_get hk with ⟨rfl, rfl⟩ | ⟨c1, hk'⟩
    · obtain ⟨q1, q2, q3, q4, q5⟩ := hri
      exact ⟨(upd_ne (by omega)).trans q1, upd_eq _ _ _, (upd_ne (by omega)).trans q3, (upd_ne (by omega)).trans q4, (upd_ne (by omega)).trans q5⟩
    · exact lk5_ext (fun q h1 h2 => upd_ne (by omega)) (r5 k l hk')
  have e5 : how = (5 : Int32) := by
    have hne3 : how.toInt ≠ 3 := fun q => e3 (Int32.toInt_inj.mp q)
    have hne4 : how.toInt ≠ 4 := fun q => e4 (Int32.toInt_inj.mp q)
    have hne6 : how.toInt ≠ 6 := fun q => e6 (Int32.toInt_inj.mp q)
    rw [Int32.le_iff_toInt_le] at h3le w4
    have z6 : ((Int8.ofInt (6)).toInt32).toInt = 6 := by decide
    have z3 : (Int32.ofInt 3).toInt = 3 := rfl
    refine Int32.toInt_inj.mp ?_
    show how.toInt = 5
    omega
  rw [if_pos (show how = Int32.ofNat 5 from e5), if_neg e4, if_pos e5, if_pos i4, if_pos i6, if_pos i7]
  have hvp : vp_nar .boolean (Int32.ofInt 0) = Int32.ofInt 0 := rfl
  simp only [nu, hvp, ts_g6, n_add, ts_u6, ts_pr, nq 1 (by omega), ts_h5, ts_v5, ts_h4, ts_v4, ts_h6, ts_v6, ts_h7, ts_v7]
  refine ⟨_, rfl, rfl, fin _ _ _ _ (K + 1) _ (fun q hq => ⟨(upd_ne hq).trans (f4 q hq), (upd_ne hq).trans (f6 q hq), (upd_ne hq).trans (f7 q hq)⟩) (fun q hq => (upd_ne (by omega)).trans (f5 q hq)) ⟨?_, upd_eq _ _ _, upd_eq _ _ _, r4, fun k l hk => ?_⟩⟩
  · rw [upd_eq]
    show _ = Int32.ofNat ((T.1.set _ _).take _).length
    rw [List.length_take, List.length_set]
    congr 1
    omega
  · have hk' : ((T.1.set i ((w_k T (Int32.ofNat i)).1, Int32.ofNat (K + 1), (w_k T (Int32.ofNat i)).2.2)).take (i + 1))[k]? = some l := hk
    have hkl := (List.getElem?_eq_some_iff.mp hk').1
    rw [List.length_take] at hkl
    rw [List.getElem?_take_of_lt (by omega)] at hk'
    rcases set1_get hk' with ⟨rfl, rfl⟩ | ⟨c1, hk'⟩
    · obtain ⟨q1, q2, q3, q4, q5⟩ := hri
      exact ⟨(upd_ne (by omega)).trans q1, upd_eq _ _ _, (upd_ne (by omega)).trans q3, (upd_ne (by omega)).trans q4, (upd_ne (by omega)).trans q5⟩
    · exact lk5_ext (fun q h1 h2 => upd_ne (by omega)) (r5 k l hk')
end MTA
