/-! ### issue, append, seal: the reference's side -/
section MIS
variable {N : Nat} {S : MS} {lc : Nat → Nat} {ln : Nat} {M : List g_Cl} {Bs : List (List g_Cl)} {D : List g_Cl} {Ts : List w_T} {K most more : Nat} {re : Int32} {rd : Nat} {un : Int32} {G : List j_R}
theorem mI_ts (h : mI S lc ln M Bs D Ts K most more re rd un G) (x : Int32) : (va_up S.1 0 x, S.2) = ts S x D.length Bs.length K Ts.length (S.2 1) (S.2 2) (S.2 3) (S.2 4) (S.2 5) (S.2 6) (S.2 7) (S.2 8) := by
  obtain ⟨⟨h4, h5, h6, h7, h8, h9⟩, -⟩ := h
  conv => lhs; rw [← ts_self h4 h5 h6 h9]
  exact (congrArg (fun z => (z, _)) ts_u0).trans ts_pr
/-- a call that throws -/
def m_out (F : Option (Int32 × MS)) (r : Int32 × Int32) (I0 I1 : MS → Prop) : Prop := ∃ S', F = some (r.1, S') ∧ S'.1 0 = r.2 ∧ ((r.2 = Int32.ofInt 0 ∧ I1 S') ∨ (¬ r.2 = Int32.ofInt 0 ∧ I0 S'))
theorem m_thr {F : Option (Int32 × MS)} {k : Int32} {I1 : MS → Prop} (h : mI S lc ln M Bs D Ts K most more re rd un G) (hF : F = some (Int32.ofInt 0, (va_up S.1 0 k, S.2))) (hk : ¬ k = Int32.ofInt 0) : m_out F (Int32.ofInt 0, k) (fun S => mI S lc ln M Bs D Ts K most more re rd un G) I1 := ⟨_, hF, rfl, Or.inr ⟨hk, mI_th k h⟩⟩
theorem m_is29r {s1 : Int32} (hs : ¬ s1 ≤ 0) (x1 : Int32) : fn_Md_issue_29 N x1 s1 S = some (Int32.ofInt 0, (va_up S.1 0 s1, S.2)) := by
  unfold fn_Md_issue_29
  exact if_neg hs
theorem m_is29 (hN : 60 ≤ N) (h : mI S lc ln M Bs D Ts K most more re rd un G) (ok : g_ok lc ln M Bs D Ts K most more) (hT : Ts.length < 16) (x : Int32) : ∃ S', fn_Md_issue_29 N x (Int32.ofInt 0) S = some (Int32.ofNat Ts.length, S') ∧ S'.1 0 = Int32.ofInt 0 ∧ mI S' lc ln [] (Bs ++ [M]) D (Ts ++ [w_nl ([], false, 0, 0) (Bs.length + 1) (K + 1) x]) (K + 1) most more re rd un G := by
  have e0 := mI_ts h (Int32.ofInt 0)
  obtain ⟨⟨h4, h5, h6, h7, h8, h9⟩, hL, hB, hT', hJ⟩ := h
  have hBT := ok.2.2.1.1
  obtain ⟨b1, b2, k1, k2⟩ := m_close (N := N) (S := S) (th := Int32.ofInt 0) (de := D.length) (bl := Bs.length) (ke := K + 1) (to := Ts.length) (a1 := S.2 1) (a2 := S.2 2) (a3 := S.2 3) (a4 := S.2 4) (a5 := S.2 5) (a6 := S.2 6) (a7 := S.2 7) (a8 := S.2 8) hN ok.2.1.1 (by omega) hB.1
  have i4 : md_in (Int32.ofNat Ts.length) (md_len 4) = true := by rw [n_in (by omega), mL4]; omega
  have i6 : md_in (Int32.ofNat Ts.length) (md_len 6) = true := by rw [n_in (by omega), mL6]; omega
  have i7 : md_in (Int32.ofNat Ts.length) (md_len 7) = true := by rw [n_in (by omega), mL7]; omega
  have nu : (Int32.ofNat Ts.length).toNatClampNeg = Ts.length := n_nat (by omega)
  refine ⟨ts S (Int32.ofInt 0) D.length (Bs.length + 1) (K + 1) (Ts.length + 1) b1 b2 (upd (upd (S.2 3) (Bs.length + 1) (Int32.ofNat M.length)) 0 (Int32.ofNat 0)) (upd (S.2 4) Ts.length (Int32.ofNat 1)) (set5 (S.2 5) (20 * Ts.length + 5 * 0) (Int32.ofNat (Bs.length + 1), Int32.ofNat (K + 1), x, Int32.ofNat (Bs.length + 1), Int32.ofNat (K + 1))) (upd (S.2 6) Ts.length (Int32.ofInt 0)) (upd (S.2 7) Ts.length (Int32.ofNat (K + 1))) (S.2 8), ?_, rfl, ?_⟩
  · unfold fn_Md_issue_29
    rw [e0, ts_g0, if_pos (show Int32.ofInt 0 ≤ 0 by decide)]
    simp only [ts_g6, n_1, n_add, ts_u6, ts_pr, ts_g9, k1, Option.bind_some]
    have hsl := m_setLink (N := N) (S := S) (th := Int32.ofInt 0) (de := D.length) (bl := Bs.length + 1) (ke := K + 1) (to := Ts.length) (a1 := b1) (a2 := b2) (a3 := upd (upd (S.2 3) (Bs.length + 1) (Int32.ofNat M.length)) 0 (Int32.ofNat 0)) (a4 := S.2 4) (a5 := S.2 5) (a6 := S.2 6) (a7 := S.2 7) (a8 := S.2 8) (t := Ts.length) (k := 0) (by omega) (by omega) (Int32.ofNat (Bs.length + 1)) (Int32.ofNat (K + 1)) x
    have hvp : vp_nar .boolean (Int32.ofInt 0) = Int32.ofInt 0 := rfl
    rw [n_0] at *
    simp only [hsl, Option.bind_some, ts_g9, i4, i6, i7, if_true, nu, ts_h4, ts_v4, ts_pr, ts_h6, ts_v6, ts_h7, ts_v7, ts_g6, n_add, ts_u9]
    have hsub : Int32.ofNat (Ts.length + 1) - Int32.ofNat 1 = Int32.ofNat Ts.length := by rw [n_sub (by omega)]; rfl
    rw [hsub]
    rfl
  · refine ⟨⟨rfl, by rw [List.length_append]; rfl, rfl, h7, h8, by rw [List.length_append]; rfl⟩, ⟨?_, fun i hi => ?_⟩, mB_close hB ok.2.1.1 (by omega) (fun L hL => (ok.2.2.1.2 L hL).1) ok.2.2.2.1.1 k2, ?_, hJ⟩
    · exact (k2.2.2.2 95 (by have := ok.2.1.1; omega)).trans hL.1
    · exact (k2.2.2.1 (3800 + i) (by have := ok.2.1.1; omega)).trans (hL.2 i hi)
    · refine mT_snoc hT' (fun T hT => (ok.2.2.2.2.1.2 T hT).1.2) (fun t ht => ⟨upd_ne (by omega), upd_ne (by omega), upd_ne (by omega), rfl⟩) (fun q hq => set5_ne (by omega)) ⟨upd_eq _ _ _, upd_eq _ _ _, upd_eq _ _ _, hT'.2 _ (Nat.le_refl _), fun k l hk => ?_⟩ (fun _ _ => rfl)
      have hk0 : k = 0 := by
        have := (List.getElem?_eq_some_iff.mp hk).1
        have h' : k < 1 := this
        omega
      subst hk0
      cases hk
      exact set5_at _ _ _
theorem m_issue (hN : 60 ≤ N) (h : mI S lc ln M Bs D Ts K most more re rd un G) (ok : g_ok lc ln M Bs D Ts K most more) (x : Int32) : m_out (fn_Md_issue N x S) (s_iss x Ts) (fun S => mI S lc ln M Bs D Ts K most more re rd un G) (fun S => mI S lc ln [] (Bs ++ [M]) D (Ts ++ [w_nl ([], false, 0, 0) (Bs.length + 1) (K + 1) x]) (K + 1) most more re rd un G) := by
  have hT16 := ok.2.2.2.2.1.1
  have h9 := h.1.2.2.2.2.2
  unfold fn_Md_issue fn_Md_issue_0 fn_Md_issue_11 s_iss
  by_cases c1 : x < Int32.ofInt 1
  · rw [if_pos c1, if_pos c1]
    exact m_thr h (m_is29r (by decide) _) (by decide)
  rw [if_neg c1, if_neg c1]
  by_cases c2 : x ≤ Int32.ofInt 3
  · have c2' : ¬ Int32.ofInt 3 < x := fun q => by
      rw [Int32.le_iff_toInt_le] at c2
      rw [Int32.lt_iff_toInt_lt] at q
      omega
    rw [if_pos c2, if_neg c2', h9, n_c16]
    by_cases c3 : Ts.length = 16
    · rw [if_pos (n_eqT c3), if_pos c3]
      exact m_thr h (m_is29r (by decide) _) (by decide)
    · rw [if_neg (n_eqF c3 (by omega) (by omega)), if_neg c3]
      obtain ⟨S', k1, k2, k3⟩ := m_is29 hN h ok (by omega) x
      exact ⟨S', k1, k2, Or.inl ⟨rfl, k3⟩⟩
  · have c2' : Int32.ofInt 3 < x := by
      rw [Int32.le_iff_toInt_le] at c2
      rw [Int32.lt_iff_toInt_lt]
      omega
    rw [if_neg c2, if_pos c2']
    exact m_thr h (m_is29r (by decide) _) (by decide)
theorem m_isT (h : mI S lc ln M Bs D Ts K most more re rd un G) (x : Int32) : fn_Md_isToken N x S = some (if x < 0 ∨ Int32.ofNat Ts.length ≤ x then Int32.ofInt 0 else Int32.ofInt 1, S) := by
  have h9 := h.1.2.2.2.2.2
  unfold fn_Md_isToken fn_Md_isToken_0 fn_Md_isToken_16 fn_Md_isToken_17
  rw [h9]
  by_cases c1 : x < 0
  · rw [if_pos c1, if_pos (Or.inl c1), if_pos n_b0]
  · rw [if_neg c1]
    by_cases c2 : Int32.ofNat Ts.length ≤ x
    · rw [if_pos c2, if_pos (Or.inr c2), if_pos n_b0]
    · rw [if_neg c2, if_pos n_b1, if_neg (show ¬ (x < 0 ∨ Int32.ofNat Ts.length ≤ x) from fun q => q.elim c1 c2)]
/-- the copy of a token at the next place -/
theorem mT1_like {a4 a5 a6 a7 a8 : Nat → Int32} {t u : Nat} {T : w_T} (hl : T.1.length ≤ 4) (h : mT1 a4 a5 a6 a7 a8 t T) : mT1 (upd a4 u (a4 t)) (cp20 a5 t u 20) (upd a6 u (a6 t)) (upd a7 u (a7 t)) (upd a8 u (a8 t)) u T := by
  obtain ⟨h1, h2, h3, h4, h5⟩ := h
  refine ⟨(upd_eq _ _ _).trans h1, (upd_eq _ _ _).trans h2, (upd_eq _ _ _).trans h3, (upd_eq _ _ _).trans h4, fun k l hk => cp20_lk ?_ (h5 k l hk)⟩
  have := (List.getElem?_eq_some_iff.mp hk).1
  omega
theorem m_ap46r {s1 : Int32} (hs : ¬ s1 ≤ 0) (x1 : Int32) : fn_Md_append_46 N x1 s1 S = some (Int32.ofInt 0, (va_up S.1 0 s1, S.2)) := by
  unfold fn_Md_append_46
  exact if_neg hs
theorem m_se36r {s1 : Int32} (hs : ¬ s1 ≤ 0) (x1 : Int32) : fn_Md_seal_36 N x1 s1 S = some (Int32.ofInt 0, (va_up S.1 0 s1, S.2)) := by
  unfold fn_Md_seal_36
  exact if_neg hs
theorem m_se36 (hN : 60 ≤ N) (h : mI S lc ln M Bs D Ts K most more re rd un G) (ok : g_ok lc ln M Bs D Ts K most more) (hT : Ts.length < 16) {t : Nat} {T : w_T} (ht : Ts[t]? = some T) : ∃ S', fn_Md_seal_36 N (Int32.ofNat t) (Int32.ofInt 0) S = some (Int32.ofNat Ts.length, S') ∧ S'.1 0 = Int32.ofInt 0 ∧ mI S' lc ln M Bs D (Ts ++ [(T.1, true, T.2.2.1, Int32.ofNat T.1.length)]) K most more re rd un G := by
  have e0 := mI_ts h (Int32.ofInt 0)
  obtain ⟨⟨h4, h5, h6, h7, h8, h9⟩, hL, hB, hT', hJ⟩ := h
  have htl := (List.getElem?_eq_some_iff.mp ht).1
  have hTl := (ok.2.2.2.2.1.2 T (List.mem_of_getElem? ht)).1
  have ht1 := hT'.1 t T ht
  have i4 : md_in (Int32.ofNat Ts.length) (md_len 4) = true := by rw [n_in (by omega), mL4]; omega
  have i6 : md_in (Int32.ofNat Ts.length) (md_len 6) = true := by rw [n_in (by omega), mL6]; omega
  have i8 : md_in (Int32.ofNat Ts.length) (md_len 8) = true := by rw [n_in (by omega), mL8]; omega
  have nu : (Int32.ofNat Ts.length).toNatClampNeg = Ts.length := n_nat (by omega)
  have hlk := m_like (N := N) (S := S) (th := Int32.ofInt 0) (de := D.length) (bl := Bs.length) (ke := K) (to := Ts.length) (a1 := S.2 1) (a2 := S.2 2) (a3 := S.2 3) (a4 := S.2 4) (a5 := S.2 5) (a6 := S.2 6) (a7 := S.2 7) (a8 := S.2 8) hN htl (by omega) ht1.2.1
  refine ⟨ts S (Int32.ofInt 0) D.length Bs.length K (Ts.length + 1) (S.2 1) (S.2 2) (S.2 3) (upd (S.2 4) Ts.length (S.2 4 t)) (cp20 (S.2 5) t Ts.length 20) (upd (upd (S.2 6) Ts.length (S.2 6 t)) Ts.length (Int32.ofInt 1)) (upd (S.2 7) Ts.length (S.2 7 t)) (upd (upd (S.2 8) Ts.length (S.2 8 t)) Ts.length (S.2 4 t)), ?_, rfl, ?_⟩
  · unfold fn_Md_seal_36
    have hvp : vp_nar .boolean (Int32.ofInt 1) = Int32.ofInt 1 := rfl
    rw [e0, ts_g0, if_pos (show Int32.ofInt 0 ≤ 0 by decide)]
    simp only [hlk, Option.bind_some, i4, i6, i8, if_true, nu, hvp, ts_h6, ts_v6, ts_pr, ts_h4, ts_h8, ts_v8, upd_eq]
  · refine ⟨⟨rfl, rfl, rfl, h7, h8, by rw [List.length_append]; rfl⟩, hL, hB, ?_, hJ⟩
    obtain ⟨r1, r2, r3, r4, r5⟩ := mT1_like (u := Ts.length) hTl.2 ht1
    exact mT_snoc hT' (fun T hT => (ok.2.2.2.2.1.2 T hT).1.2) (fun t ht => ⟨upd_ne (by omega), (upd_ne (by omega)).trans (upd_ne (by omega)), upd_ne (by omega), (upd_ne (by omega)).trans (upd_ne (by omega))⟩) (fun q hq => cp20_ne (by omega)) ⟨r1, upd_eq _ _ _, r3, (upd_eq _ _ _).trans ht1.1, r5⟩ (fun t ht => (upd_ne (by omega)).trans (upd_ne (by omega)))
theorem m_seal (hN : 60 ≤ N) (h : mI S lc ln M Bs D Ts K most more re rd un G) (ok : g_ok lc ln M Bs D Ts K most more) (x : Int32) : m_out (fn_Md_seal N x S) (s_sea x Ts) (fun S => mI S lc ln M Bs D Ts K most more re rd un G) (fun S => mI S lc ln M Bs D (Ts ++ [((w_at Ts x).1, true, (w_at Ts x).2.2.1, Int32.ofNat (w_at Ts x).1.length)]) K most more re rd un G) := by
  have hT16 := ok.2.2.2.2.1.1
  have h9 := h.1.2.2.2.2.2
  unfold fn_Md_seal fn_Md_seal_0 fn_Md_seal_31 s_sea
  rw [m_isT h, Option.bind_some]
  dsimp only
  by_cases c1 : w_no Ts x
  · rw [if_pos c1, if_pos (show x < 0 ∨ Int32.ofNat Ts.length ≤ x from c1), if_pos n_e00]
    exact m_thr h (m_se36r (by decide) _) (by decide)
  obtain ⟨i, hi, hx, hg⟩ := w_at_get hT16 c1
  have ht1 := h.2.2.2.1.1 i _ hg
  rw [if_neg c1, if_neg (show ¬ (x < 0 ∨ Int32.ofNat Ts.length ≤ x) from c1), if_neg n_ne10]
  generalize hW : w_at Ts x = T at *
  subst hx
  rw [if_pos (show md_in (Int32.ofNat i) (md_len 6) = true by rw [n_in (by omega), mL6]; omega), n_nat (by omega), ht1.2.1, h9, n_c16]
  cases hs : T.2.1 with
  | true =>
    rw [if_neg (show ¬ j_b true = 0 from n_ne10), if_pos (Or.inl rfl)]
    exact m_thr h (m_se36r (by decide) _) (by decide)
  | false =>
    rw [if_pos (show j_b false = 0 from n_e00)]
    by_cases c5 : Ts.length = 16
    · rw [if_pos (n_eqT c5), if_pos (Or.inr c5)]
      exact m_thr h (m_se36r (by decide) _) (by decide)
    · rw [if_neg (n_eqF c5 (by omega) (by omega)), if_neg (show ¬ (false = true ∨ Ts.length = 16) from fun q => by rcases q with q | q; cases q; exact c5 q)]
      obtain ⟨S', k1, k2, k3⟩ := m_se36 hN h ok (by omega) hg
      exact ⟨S', k1, k2, Or.inl ⟨rfl, k3⟩⟩
theorem m_ap46 (hN : 60 ≤ N) (h : mI S lc ln M Bs D Ts K most more re rd un G) (ok : g_ok lc ln M Bs D Ts K most more) (hT : Ts.length < 16) {t : Nat} {T : w_T} (ht : Ts[t]? = some T) (hl4 : T.1.length < 4) (hns : T.2.1 = false) : ∃ S', fn_Md_append_46 N (Int32.ofNat t) (Int32.ofInt 0) S = some (Int32.ofNat Ts.length, S') ∧ S'.1 0 = Int32.ofInt 0 ∧ mI S' lc ln [] (Bs ++ [M]) D (Ts ++ [w_nl T (Bs.length + 1) (K + 1) T.2.2.1]) (K + 1) most more re rd un G := by
  have e0 := mI_ts h (Int32.ofInt 0)
  obtain ⟨⟨h4, h5, h6, h7, h8, h9⟩, hL, hB, hT', hJ⟩ := h
  have hBT := ok.2.2.1.1
  have htl := (List.getElem?_eq_some_iff.mp ht).1
  have hTl := (ok.2.2.2.2.1.2 T (List.mem_of_getElem? ht)).1
  have ht1 := hT'.1 t T ht
  obtain ⟨r1, r2, r3, r4, r5⟩ := mT1_like (u := Ts.length) hTl.2 ht1
  have i4 : md_in (Int32.ofNat Ts.length) (md_len 4) = true := by rw [n_in (by omega), mL4]; omega
  have i7 : md_in (Int32.ofNat Ts.length) (md_len 7) = true := by rw [n_in (by omega), mL7]; omega
  have nu : (Int32.ofNat Ts.length).toNatClampNeg = Ts.length := n_nat (by omega)
  have hlk := m_like (N := N) (S := S) (th := Int32.ofInt 0) (de := D.length) (bl := Bs.length) (ke := K) (to := Ts.length) (a1 := S.2 1) (a2 := S.2 2) (a3 := S.2 3) (a4 := S.2 4) (a5 := S.2 5) (a6 := S.2 6) (a7 := S.2 7) (a8 := S.2 8) hN htl (by omega) ht1.2.1
  obtain ⟨b1, b2, k1, k2⟩ := m_close (N := N) (S := S) (th := Int32.ofInt 0) (de := D.length) (bl := Bs.length) (ke := K + 1) (to := Ts.length + 1) (a1 := S.2 1) (a2 := S.2 2) (a3 := S.2 3) (a4 := upd (S.2 4) Ts.length (S.2 4 t)) (a5 := cp20 (S.2 5) t Ts.length 20) (a6 := upd (S.2 6) Ts.length (S.2 6 t)) (a7 := upd (S.2 7) Ts.length (S.2 7 t)) (a8 := upd (S.2 8) Ts.length (S.2 8 t)) hN ok.2.1.1 (by omega) hB.1
  have hsl := m_setLink (N := N) (S := S) (th := Int32.ofInt 0) (de := D.length) (bl := Bs.length + 1) (ke := K + 1) (to := Ts.length + 1) (a1 := b1) (a2 := b2) (a3 := upd (upd (S.2 3) (Bs.length + 1) (Int32.ofNat M.length)) 0 (Int32.ofNat 0)) (a4 := upd (S.2 4) Ts.length (S.2 4 t)) (a5 := cp20 (S.2 5) t Ts.length 20) (a6 := upd (S.2 6) Ts.length (S.2 6 t)) (a7 := upd (S.2 7) Ts.length (S.2 7 t)) (a8 := upd (S.2 8) Ts.length (S.2 8 t)) (t := Ts.length) (k := T.1.length) (by omega) (by omega) (Int32.ofNat (Bs.length + 1)) (Int32.ofNat (K + 1)) T.2.2.1
  refine ⟨ts S (Int32.ofInt 0) D.length (Bs.length + 1) (K + 1) (Ts.length + 1) b1 b2 (upd (upd (S.2 3) (Bs.length + 1) (Int32.ofNat M.length)) 0 (Int32.ofNat 0)) (upd (upd (S.2 4) Ts.length (S.2 4 t)) Ts.length (Int32.ofNat (T.1.length + 1))) (set5 (cp20 (S.2 5) t Ts.length 20) (20 * Ts.length + 5 * T.1.length) (Int32.ofNat (Bs.length + 1), Int32.ofNat (K + 1), T.2.2.1, Int32.ofNat (Bs.length + 1), Int32.ofNat (K + 1))) (upd (S.2 6) Ts.length (S.2 6 t)) (upd (upd (S.2 7) Ts.length (S.2 7 t)) Ts.length (Int32.ofNat (K + 1))) (upd (S.2 8) Ts.length (S.2 8 t)), ?_, rfl, ?_⟩
  · unfold fn_Md_append_46
    rw [e0, ts_g0, if_pos (show Int32.ofInt 0 ≤ 0 by decide), hlk, Option.bind_some]
    simp only [i4, i7, if_true, nu, ts_g6, n_1, n_add, ts_u6, ts_pr, k1, Option.bind_some, ts_h4, r1, ts_h7, r3, hsl, ts_v4, ts_v7]
  · refine ⟨⟨rfl, by rw [List.length_append]; rfl, rfl, h7, h8, by rw [List.length_append]; rfl⟩, ⟨?_, fun i hi => ?_⟩, mB_close hB ok.2.1.1 (by omega) (fun L hL => (ok.2.2.1.2 L hL).1) ok.2.2.2.1.1 k2, ?_, hJ⟩
    · exact (k2.2.2.2 95 (by have := ok.2.1.1; omega)).trans hL.1
    · exact (k2.2.2.1 (3800 + i) (by have := ok.2.1.1; omega)).trans (hL.2 i hi)
    · refine mT_snoc hT' (fun T hT => (ok.2.2.2.2.1.2 T hT).1.2) (fun t ht => ⟨(upd_ne (by omega)).trans (upd_ne (by omega)), upd_ne (by omega), (upd_ne (by omega)).trans (upd_ne (by omega)), upd_ne (by omega)⟩) (fun q hq => (set5_ne (by omega)).trans (cp20_ne (by omega))) ⟨?_, r2.trans (by rw [hns]; rfl), upd_eq _ _ _, r4, fun k l hk => ?_⟩ (fun t ht => upd_ne (by omega))
      · refine (upd_eq (upd (S.2 4) Ts.length (S.2 4 t)) Ts.length (Int32.ofNat (T.1.length + 1))).trans ?_
        show _ = Int32.ofNat (T.1 ++ [_]).length
        rw [List.length_append]
        rfl
      · have hk' : (T.1 ++ [(Int32.ofNat (Bs.length + 1), Int32.ofNat (K + 1), T.2.2.1, Int32.ofNat (Bs.length + 1), Int32.ofNat (K + 1))])[k]? = some l := hk
        by_cases e : k < T.1.length
        · rw [List.getElem?_append_left e] at hk'
          exact lk5_ext (fun j _ hj => set5_ne (by omega)) (r5 k l hk')
        · have hke : k = T.1.length := by
            have := (List.getElem?_eq_some_iff.mp hk').1
            rw [List.length_append] at this
            have h' : k < T.1.length + 1 := this
            omega
          subst hke
          rw [List.getElem?_append_right (Nat.le_refl _), Nat.sub_self] at hk'
          cases hk'
          exact set5_at _ _ _
theorem m_append (hN : 60 ≤ N) (h : mI S lc ln M Bs D Ts K most more re rd un G) (ok : g_ok lc ln M Bs D Ts K most more) (x : Int32) : m_out (fn_Md_append N x S) (s_app x Ts) (fun S => mI S lc ln M Bs D Ts K most more re rd un G) (fun S => mI S lc ln [] (Bs ++ [M]) D (Ts ++ [w_nl (w_at Ts x) (Bs.length + 1) (K + 1) (w_at Ts x).2.2.1]) (K + 1) most more re rd un G) := by
  have hT16 := ok.2.2.2.2.1.1
  have h9 := h.1.2.2.2.2.2
  unfold fn_Md_append fn_Md_append_0 fn_Md_append_41 s_app
  rw [m_isT h, Option.bind_some]
  dsimp only
  by_cases c1 : w_no Ts x
  · rw [if_pos c1, if_pos (show x < 0 ∨ Int32.ofNat Ts.length ≤ x from c1), if_pos n_e00]
    exact m_thr h (m_ap46r (by decide) _) (by decide)
  obtain ⟨i, hi, hx, hg⟩ := w_at_get hT16 c1
  have ht1 := h.2.2.2.1.1 i _ hg
  have hlen := (ok.2.2.2.2.1.2 _ (List.mem_of_getElem? hg)).1
  rw [if_neg c1, if_neg (show ¬ (x < 0 ∨ Int32.ofNat Ts.length ≤ x) from c1), if_neg n_ne10]
  generalize hW : w_at Ts x = T at *
  subst hx
  rw [if_pos (show md_in (Int32.ofNat i) (md_len 6) = true by rw [n_in (by omega), mL6]; omega), if_pos (show md_in (Int32.ofNat i) (md_len 4) = true by rw [n_in (by omega), mL4]; omega), n_nat (by omega), ht1.2.1, ht1.1, h9, n_c16, n_4]
  cases hs : T.2.1 with
  | true =>
    rw [if_neg (show ¬ j_b true = 0 from n_ne10), if_pos (Or.inl rfl)]
    exact m_thr h (m_ap46r (by decide) _) (by decide)
  | false =>
    rw [if_pos (show j_b false = 0 from n_e00)]
    by_cases c4 : T.1.length = 4
    · rw [if_pos (n_eqT c4), if_pos (Or.inr (Or.inl c4))]
      exact m_thr h (m_ap46r (by decide) _) (by decide)
    rw [if_neg (n_eqF c4 (by omega) (by omega))]
    by_cases c5 : Ts.length = 16
    · rw [if_pos (n_eqT c5), if_pos (Or.inr (Or.inr c5))]
      exact m_thr h (m_ap46r (by decide) _) (by decide)
    · rw [if_neg (n_eqF c5 (by omega) (by omega)), if_neg (show ¬ (false = true ∨ T.1.length = 4 ∨ Ts.length = 16) from fun q => by rcases q with q | q | q; cases q; exact c4 q; exact c5 q)]
      obtain ⟨S', k1, k2, k3⟩ := m_ap46 hN h ok (by omega) hg (by omega) hs
      exact ⟨S', k1, k2, Or.inl ⟨rfl, k3⟩⟩
end MIS
