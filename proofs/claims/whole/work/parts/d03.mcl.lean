/-! ### What the reference stands for; clause, desk -/
abbrev w_K : Type := Int32 × Int32 × Int32 × Int32 × Int32
abbrev w_T : Type := List w_K × Bool × Int32 × Int32
def mL (a1 a2 : Nat → Int32) (lc : Nat → Nat) (ln : Nat) : Prop := a2 95 = Int32.ofNat ln ∧ ∀ i, i < ln → a1 (3800 + i) = Int32.ofNat (lc i)
def mB (a1 a2 a3 : Nat → Int32) (M : List g_Cl) (Bs : List (List g_Cl)) (D : List g_Cl) : Prop := a3 0 = Int32.ofNat M.length ∧ (∀ i x, M[i]? = some x → tx a1 a2 i x) ∧ (∀ (b : Nat) (L : List g_Cl), Bs[b]? = some L → a3 (b + 1) = Int32.ofNat L.length ∧ ∀ i x, L[i]? = some x → tx a1 a2 (5 * (b + 1) + i) x) ∧ ∀ i x, D[i]? = some x → tx a1 a2 (85 + i) x
def lk5 (a5 : Nat → Int32) (q : Nat) (l : w_K) : Prop := a5 q = l.1 ∧ a5 (q + 1) = l.2.1 ∧ a5 (q + 2) = l.2.2.1 ∧ a5 (q + 3) = l.2.2.2.1 ∧ a5 (q + 4) = l.2.2.2.2
def mT1 (a4 a5 a6 a7 a8 : Nat → Int32) (t : Nat) (T : w_T) : Prop := a4 t = Int32.ofNat T.1.length ∧ a6 t = j_b T.2.1 ∧ a7 t = T.2.2.1 ∧ a8 t = T.2.2.2 ∧ ∀ k l, T.1[k]? = some l → lk5 a5 (20 * t + 5 * k) l
def mT (a4 a5 a6 a7 a8 : Nat → Int32) (Ts : List w_T) : Prop := (∀ t T, Ts[t]? = some T → mT1 a4 a5 a6 a7 a8 t T) ∧ ∀ t, Ts.length ≤ t → a8 t = 0
def mJ (S : MS) (re : Int32) (rd : Nat) (un : Int32) (G : List j_R) : Prop := S.1 35 = re ∧ S.1 36 = Int32.ofNat rd ∧ S.1 37 = un ∧ S.1 32 = Int32.ofNat G.length ∧ ∀ (i : Nat) (r : j_R), G[i]? = some r → r_row (S.2 17) i = r
def mI (S : MS) (lc : Nat → Nat) (ln : Nat) (M : List g_Cl) (Bs : List (List g_Cl)) (D : List g_Cl) (Ts : List w_T) (K most more : Nat) (re : Int32) (rd : Nat) (un : Int32) (G : List j_R) : Prop :=
  (S.1 4 = Int32.ofNat D.length ∧ S.1 5 = Int32.ofNat Bs.length ∧ S.1 6 = Int32.ofNat K ∧ S.1 7 = Int32.ofNat most ∧ S.1 8 = Int32.ofNat more ∧ S.1 9 = Int32.ofNat Ts.length) ∧ mL (S.2 1) (S.2 2) lc ln ∧ mB (S.2 1) (S.2 2) (S.2 3) M Bs D ∧ mT (S.2 4) (S.2 5) (S.2 6) (S.2 7) (S.2 8) Ts ∧ mJ S re rd un G
/-- the sizes -/
def g_ok (lc : Nat → Nat) (ln : Nat) (M : List g_Cl) (Bs : List (List g_Cl)) (D : List g_Cl) (Ts : List w_T) (K most more : Nat) : Prop :=
  (ln ≤ 40 ∧ ∀ i, i < ln → 32 ≤ lc i ∧ lc i ≤ 126) ∧ (M.length ≤ 5 ∧ ∀ x, x ∈ M → x_ok x ∧ x.1 ≤ 3) ∧ (Bs.length ≤ Ts.length ∧ ∀ L, L ∈ Bs → L.length ≤ 5 ∧ ∀ x, x ∈ L → x_ok x ∧ x.1 ≤ 3) ∧ (D.length ≤ 10 ∧ ∀ x, x ∈ D → x_ok x) ∧ (Ts.length ≤ 16 ∧ ∀ T, T ∈ Ts → (1 ≤ T.1.length ∧ T.1.length ≤ 4) ∧ ∀ l, l ∈ T.1 → ∃ b, 1 ≤ b ∧ b ≤ Bs.length ∧ l.1 = Int32.ofNat b) ∧ (1 ≤ most ∧ most ≤ 30) ∧ 1 ≤ more ∧ more ≤ 12
theorem mB_M {a1 a2 a3 : Nat → Int32} {M : List g_Cl} {Bs : List (List g_Cl)} {D : List g_Cl} {x : g_Cl} (h : mB a1 a2 a3 M Bs D) (hM : M.length < 5) (hB : Bs.length ≤ 16) (hL : ∀ L, L ∈ Bs → L.length ≤ 5) (hD : D.length ≤ 10) (hx : tx a1 a2 95 x) : mB (cp1 a1 95 M.length 40) (upd (upd a2 M.length (a2 95)) 95 (Int32.ofNat 0)) (upd a3 0 (Int32.ofNat (M.length + 1))) (M ++ [x]) Bs D := by
  obtain ⟨h1, h2, h3, h4⟩ := h
  refine ⟨?_, fun i y hy => ?_, fun b L hb => ?_, fun i y hy => ?_⟩
  · rw [upd_eq, List.length_append]; rfl
  · by_cases e : i < M.length
    · rw [List.getElem?_append_left e] at hy
      exact tx_len (by omega) (tx_kp (by omega) (h2 i y hy))
    · have hi : i = M.length := by
        have := (List.getElem?_eq_some_iff.mp hy).1
        rw [List.length_append] at this
        have h' : i < M.length + 1 := this
        omega
      subst hi
      rw [List.getElem?_append_right (Nat.le_refl _), Nat.sub_self] at hy
      cases hy
      exact tx_len (by omega) (tx_cp hx)
  · have hbl := (List.getElem?_eq_some_iff.mp hb).1
    have hl5 := hL L (List.mem_of_getElem? hb)
    obtain ⟨q1, q2⟩ := h3 b L hb
    refine ⟨by rw [upd_ne (by omega)]; exact q1, fun i y hy => ?_⟩
    have hil := (List.getElem?_eq_some_iff.mp hy).1
    exact tx_len (by omega) (tx_kp (by omega) (q2 i y hy))
  · have hil := (List.getElem?_eq_some_iff.mp hy).1
    exact tx_len (by omega) (tx_kp (by omega) (h4 i y hy))
theorem mB_D {a1 a2 a3 : Nat → Int32} {M : List g_Cl} {Bs : List (List g_Cl)} {D : List g_Cl} {x : g_Cl} (h : mB a1 a2 a3 M Bs D) (hM : M.length ≤ 5) (hB : Bs.length ≤ 16) (hL : ∀ L, L ∈ Bs → L.length ≤ 5) (hD : D.length < 10) (hx : tx a1 a2 95 x) : mB (cp1 a1 95 (85 + D.length) 40) (upd (upd a2 (85 + D.length) (a2 95)) 95 (Int32.ofNat 0)) a3 M Bs (D ++ [x]) := by
  obtain ⟨h1, h2, h3, h4⟩ := h
  refine ⟨h1, fun i y hy => ?_, fun b L hb => ?_, fun i y hy => ?_⟩
  · have hil := (List.getElem?_eq_some_iff.mp hy).1
    exact tx_len (by omega) (tx_kp (by omega) (h2 i y hy))
  · have hbl := (List.getElem?_eq_some_iff.mp hb).1
    have hl5 := hL L (List.mem_of_getElem? hb)
    obtain ⟨q1, q2⟩ := h3 b L hb
    refine ⟨q1, fun i y hy => ?_⟩
    have hil := (List.getElem?_eq_some_iff.mp hy).1
    exact tx_len (by omega) (tx_kp (by omega) (q2 i y hy))
  · by_cases e : i < D.length
    · rw [List.getElem?_append_left e] at hy
      exact tx_len (by omega) (tx_kp (by omega) (h4 i y hy))
    · have hi : i = D.length := by
        have := (List.getElem?_eq_some_iff.mp hy).1
        rw [List.length_append] at this
        have h' : i < D.length + 1 := this
        omega
      subst hi
      rw [List.getElem?_append_right (Nat.le_refl _), Nat.sub_self] at hy
      cases hy
      exact tx_len (by omega) (tx_cp hx)
/-- the same but for what reading leaves behind -/
theorem mI_mf {S S1 : MS} {lc : Nat → Nat} {ln : Nat} {M : List g_Cl} {Bs : List (List g_Cl)} {D : List g_Cl} {Ts : List w_T} {K most more : Nat} {re : Int32} {rd : Nat} {un : Int32} {G : List j_R} {sl : Nat} (h : mI S lc ln M Bs D Ts K most more re rd un G) (f : mf_rep S S1 sl) : mI S1 lc ln M Bs D Ts K most more re rd un G := by
  obtain ⟨f1, f2, -⟩ := f
  have e1 : ∀ k, k ≤ 9 ∨ (32 ≤ k ∧ k ≤ 40) → S1.1 k = S.1 k := fun k hk => f1 k (by omega) (by omega) (by omega) (by omega) (by omega) (by omega) (by omega) (by omega)
  have e2 : ∀ j, j ≤ 8 ∨ j = 17 → S1.2 j = S.2 j := fun j hj => f2 j (by omega) (by omega) (by omega) (by omega) (by omega) (by omega) (by omega)
  unfold mI mJ at h ⊢
  rw [e1 4 (by omega), e1 5 (by omega), e1 6 (by omega), e1 7 (by omega), e1 8 (by omega), e1 9 (by omega), e1 35 (by omega), e1 36 (by omega), e1 37 (by omega), e1 32 (by omega), e2 1 (by omega), e2 2 (by omega), e2 3 (by omega), e2 4 (by omega), e2 5 (by omega), e2 6 (by omega), e2 7 (by omega), e2 8 (by omega), e2 17 (by omega)]
  exact h
/-- thrown may be anything -/
theorem mI_th {S : MS} {lc : Nat → Nat} {ln : Nat} {M : List g_Cl} {Bs : List (List g_Cl)} {D : List g_Cl} {Ts : List w_T} {K most more : Nat} {re : Int32} {rd : Nat} {un : Int32} {G : List j_R} (x : Int32) (h : mI S lc ln M Bs D Ts K most more re rd un G) : mI (va_up S.1 0 x, S.2) lc ln M Bs D Ts K most more re rd un G := h
theorem mI_tx {S : MS} {lc : Nat → Nat} {ln : Nat} {M : List g_Cl} {Bs : List (List g_Cl)} {D : List g_Cl} {Ts : List w_T} {K most more : Nat} {re : Int32} {rd : Nat} {un : Int32} {G : List j_R} (h : mI S lc ln M Bs D Ts K most more re rd un G) (hln : ln ≤ 40 ∧ ∀ i, i < ln → 32 ≤ lc i ∧ lc i ≤ 126) {x : g_Cl} (e : g_rd lc ln = some x) : tx (S.2 1) (S.2 2) 95 x := ⟨lc, ln, hln.1, h.2.1.1, fun i hi => ⟨h.2.1.2 i hi, hln.2 i hi⟩, e⟩
section MCL
variable {N : Nat} {S : MS} {lc : Nat → Nat} {ln : Nat} {M : List g_Cl} {Bs : List (List g_Cl)} {D : List g_Cl} {Ts : List w_T} {K most more : Nat} {re : Int32} {rd : Nat} {un : Int32} {G : List j_R}
/-- what clause answers and throws -/
def s_cl (lc : Nat → Nat) (ln : Nat) (M : List g_Cl) : Int32 × Int32 × Option g_Cl := match g_rd lc ln with
  | none => (Int32.ofInt 0, Int32.ofInt 1, none)
  | some x => if 3 < x.1 then (Int32.ofInt 0, Int32.ofInt 2, none) else if M.length = 5 then (Int32.ofInt 0, Int32.ofInt 3, none) else (Int32.ofNat x.1, Int32.ofInt 0, some x)
def s_de (lc : Nat → Nat) (ln : Nat) (D : List g_Cl) : Int32 × Int32 × Option g_Cl := match g_rd lc ln with
  | none => (Int32.ofInt 0, Int32.ofInt 1, none)
  | some x => if D.length = 10 then (Int32.ofInt 0, Int32.ofInt 2, none) else (Int32.ofNat x.1, Int32.ofInt 0, some x)
theorem mrd_ok (h : mI S lc ln M Bs D Ts K most more re rd un G) (ok : g_ok lc ln M Bs D Ts K most more) (hN : 60 ≤ N) : mr_sp S 30 (g_rd lc ln) (fn_Md_read N ((Int8.ofInt (95)).toInt32) ((Int8.ofInt (30)).toInt32) S) := by
  rw [n_c95, n_c30]
  exact m_read hN ok.1.1 (by omega) (by omega) h.2.1.1 (fun i hi => ⟨h.2.1.2 i hi, ok.1.2 i hi⟩)
theorem m_cl42r {s1 : Int32} (hs : ¬ s1 ≤ 0) (x1 : Int32) : fn_Md_clause_42 N x1 s1 S = some (Int32.ofInt 0, (va_up S.1 0 s1, S.2)) := by
  unfold fn_Md_clause_42
  exact if_neg hs
theorem m_de32r {s1 : Int32} (hs : ¬ s1 ≤ 0) (x1 : Int32) : fn_Md_desk_32 N x1 s1 S = some (Int32.ofInt 0, (va_up S.1 0 s1, S.2)) := by
  unfold fn_Md_desk_32
  exact if_neg hs
theorem m_cl42 (hN : 60 ≤ N) (h : mI S lc ln M Bs D Ts K most more re rd un G) (ok : g_ok lc ln M Bs D Ts K most more) (hM : M.length < 5) {x : g_Cl} (e : g_rd lc ln = some x) : ∃ S', fn_Md_clause_42 N (Int32.ofNat x.1) (Int32.ofInt 0) S = some (Int32.ofNat x.1, S') ∧ S'.1 0 = Int32.ofInt 0 ∧ mI S' lc 0 (M ++ [x]) Bs D Ts K most more re rd un G := by
  obtain ⟨⟨h4, h5, h6, h7, h8, h9⟩, hL, hB, hT, hJ⟩ := h
  have e0 : (va_up S.1 0 (Int32.ofInt 0), S.2) = ts S (Int32.ofInt 0) D.length Bs.length K Ts.length (S.2 1) (S.2 2) (S.2 3) (S.2 4) (S.2 5) (S.2 6) (S.2 7) (S.2 8) := by
    conv => lhs; rw [← ts_self h4 h5 h6 h9]
    exact (congrArg (fun z => (z, _)) ts_u0).trans ts_pr
  have hM0 := hB.1
  refine ⟨ts S (Int32.ofInt 0) D.length Bs.length K Ts.length (cp1 (S.2 1) 95 M.length 40) (upd (upd (S.2 2) M.length (S.2 2 95)) 95 (Int32.ofNat 0)) (upd (S.2 3) 0 (Int32.ofNat (M.length + 1))) (S.2 4) (S.2 5) (S.2 6) (S.2 7) (S.2 8), ?_, rfl, ?_⟩
  · unfold fn_Md_clause_42
    rw [e0, ts_g0, if_pos (show Int32.ofInt 0 ≤ 0 by decide), if_pos (show md_in (Int32.ofInt 0) (md_len 3) = true by decide), show (Int32.ofInt 0).toNatClampNeg = 0 from rfl, ts_h3, hM0, n_c95, m_copy hN (by omega) (by omega) (by omega), Option.bind_some, if_pos (show md_in (Int32.ofInt 0) (md_len 3) = true by decide), if_pos (show md_in (Int32.ofInt 0) (md_len 3) = true by decide), if_pos (show md_in (Int32.ofNat 95) (md_len 2) = true by decide)]
    dsimp only
    rw [ts_h3, hM0, n_1, n_add, n_nat (by omega), ts_v3, ts_h2, ts_v2, ts_pr]
    rfl
  · refine ⟨⟨rfl, rfl, rfl, h7, h8, rfl⟩, ⟨upd_eq (upd (S.2 2) M.length (S.2 2 95)) 95 (Int32.ofNat 0), fun i hi => absurd hi (by omega)⟩, mB_M hB hM (by have := ok.2.2.1.1; have := ok.2.2.2.2.1.1; omega) (fun L hL => (ok.2.2.1.2 L hL).1) ok.2.2.2.1.1 ?_, hT, hJ⟩
    exact ⟨lc, ln, ok.1.1, hL.1, fun i hi => ⟨hL.2 i hi, ok.1.2 i hi⟩, e⟩
theorem m_clause (hN : 60 ≤ N) (h : mI S lc ln M Bs D Ts K most more re rd un G) (ok : g_ok lc ln M Bs D Ts K most more) : ∃ S', fn_Md_clause N S = some ((s_cl lc ln M).1, S') ∧ S'.1 0 = (s_cl lc ln M).2.1 ∧ match (s_cl lc ln M).2.2 with
    | none => mI S' lc ln M Bs D Ts K most more re rd un G
    | some x => mI S' lc 0 (M ++ [x]) Bs D Ts K most more re rd un G := by
  have hr := mrd_ok h ok hN
  unfold fn_Md_clause fn_Md_clause_0 s_cl
  unfold mr_sp at hr
  cases e : g_rd lc ln with
  | none =>
    rw [e] at hr
    obtain ⟨S1, r1, r2, r3⟩ := hr
    refine ⟨_, ?_, ?_, mI_th (Int32.ofInt 1) (mI_mf h r3)⟩
    · rw [r1, Option.bind_some, if_neg (show ¬ (0 : Int32) ≤ Int32.ofInt (-1) by decide)]
      exact m_cl42r (by decide) _
    · rfl
  | some x =>
    rw [e] at hr
    obtain ⟨S1, r1, r2, r3⟩ := hr
    have hx5 := (g_rd_ok ok.1.1 e).2.1
    have h1 := mI_mf h r3
    rw [r1, Option.bind_some, if_pos (show (0 : Int32) ≤ Int32.ofNat x.1 from n_leT (a := 0) (by omega) (by omega)), n_3]
    dsimp only
    by_cases e3 : 3 < x.1
    · rw [if_neg (n_leF e3 (by omega)), if_pos e3]
      refine ⟨_, m_cl42r (by decide) _, rfl, mI_th (Int32.ofInt 2) h1⟩
    · rw [if_pos (n_leT (by omega) (by omega)), if_neg e3, if_pos (show md_in (Int32.ofInt 0) (md_len 3) = true by decide), show (Int32.ofInt 0).toNatClampNeg = 0 from rfl, h1.2.2.1.1, n_5]
      have hM5 := ok.2.1.1
      by_cases e5 : M.length = 5
      · rw [if_pos (n_eqT e5), if_pos e5]
        refine ⟨_, m_cl42r (by decide) _, rfl, mI_th (Int32.ofInt 3) h1⟩
      · rw [if_neg (n_eqF e5 (by omega) (by omega)), if_neg e5]
        exact m_cl42 hN h1 ok (by omega) e
theorem m_de32 (hN : 60 ≤ N) (h : mI S lc ln M Bs D Ts K most more re rd un G) (ok : g_ok lc ln M Bs D Ts K most more) (hD : D.length < 10) {x : g_Cl} (e : g_rd lc ln = some x) : ∃ S', fn_Md_desk_32 N (Int32.ofNat x.1) (Int32.ofInt 0) S = some (Int32.ofNat x.1, S') ∧ S'.1 0 = Int32.ofInt 0 ∧ mI S' lc 0 M Bs (D ++ [x]) Ts K most more re rd un G := by
  obtain ⟨⟨h4, h5, h6, h7, h8, h9⟩, hL, hB, hT, hJ⟩ := h
  have e0 : (va_up S.1 0 (Int32.ofInt 0), S.2) = ts S (Int32.ofInt 0) D.length Bs.length K Ts.length (S.2 1) (S.2 2) (S.2 3) (S.2 4) (S.2 5) (S.2 6) (S.2 7) (S.2 8) := by
    conv => lhs; rw [← ts_self h4 h5 h6 h9]
    exact (congrArg (fun z => (z, _)) ts_u0).trans ts_pr
  refine ⟨ts S (Int32.ofInt 0) (D.length + 1) Bs.length K Ts.length (cp1 (S.2 1) 95 (85 + D.length) 40) (upd (upd (S.2 2) (85 + D.length) (S.2 2 95)) 95 (Int32.ofNat 0)) (S.2 3) (S.2 4) (S.2 5) (S.2 6) (S.2 7) (S.2 8), ?_, rfl, ?_⟩
  · unfold fn_Md_desk_32
    rw [e0, ts_g0, if_pos (show Int32.ofInt 0 ≤ 0 by decide), ts_g4, n_c85, n_add, n_c95, m_copy hN (by omega) (by omega) (by omega), Option.bind_some, if_pos (show md_in (Int32.ofNat 95) (md_len 2) = true by decide)]
    dsimp only
    rw [ts_g4, n_1, n_add, n_nat (by omega), ts_u4, ts_h2, ts_v2, ts_pr]
    rfl
  · refine ⟨⟨by rw [List.length_append]; rfl, rfl, rfl, h7, h8, rfl⟩, ⟨upd_eq (upd (S.2 2) (85 + D.length) (S.2 2 95)) 95 (Int32.ofNat 0), fun i hi => absurd hi (by omega)⟩, mB_D hB ok.2.1.1 (by have := ok.2.2.1.1; have := ok.2.2.2.2.1.1; omega) (fun L hL => (ok.2.2.1.2 L hL).1) hD ?_, hT, hJ⟩
    exact ⟨lc, ln, ok.1.1, hL.1, fun i hi => ⟨hL.2 i hi, ok.1.2 i hi⟩, e⟩
theorem m_desk (hN : 60 ≤ N) (h : mI S lc ln M Bs D Ts K most more re rd un G) (ok : g_ok lc ln M Bs D Ts K most more) : ∃ S', fn_Md_desk N S = some ((s_de lc ln D).1, S') ∧ S'.1 0 = (s_de lc ln D).2.1 ∧ match (s_de lc ln D).2.2 with
    | none => mI S' lc ln M Bs D Ts K most more re rd un G
    | some x => mI S' lc 0 M Bs (D ++ [x]) Ts K most more re rd un G := by
  have hr := mrd_ok h ok hN
  unfold fn_Md_desk fn_Md_desk_0 s_de
  unfold mr_sp at hr
  cases e : g_rd lc ln with
  | none =>
    rw [e] at hr
    obtain ⟨S1, r1, r2, r3⟩ := hr
    refine ⟨_, ?_, ?_, mI_th (Int32.ofInt 1) (mI_mf h r3)⟩
    · rw [r1, Option.bind_some, if_neg (show ¬ (0 : Int32) ≤ Int32.ofInt (-1) by decide)]
      exact m_de32r (by decide) _
    · rfl
  | some x =>
    rw [e] at hr
    obtain ⟨S1, r1, r2, r3⟩ := hr
    have hx5 := (g_rd_ok ok.1.1 e).2.1
    have h1 := mI_mf h r3
    rw [r1, Option.bind_some, if_pos (show (0 : Int32) ≤ Int32.ofNat x.1 from n_leT (a := 0) (by omega) (by omega)), n_c10]
    dsimp only
    rw [h1.1.1]
    have hD10 := ok.2.2.2.1.1
    by_cases e5 : D.length = 10
    · rw [if_pos (n_eqT e5), if_pos e5]
      refine ⟨_, m_de32r (by decide) _, rfl, mI_th (Int32.ofInt 2) h1⟩
    · rw [if_neg (n_eqF e5 (by omega) (by omega)), if_neg e5]
      exact m_de32 hN h1 ok (by omega) e
end MCL
