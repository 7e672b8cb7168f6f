/-! ### The reference's rounds -/
section MMA
variable {N : Nat} {S : MS} {most : Nat} {Q : List (Nat × g_Cl)}
theorem m_rows1 {F : List j_R} (hF : ∀ r, r ∈ F → r_bd r ∧ r_sz r) {w : j_W} (h : rows_ok w) {q : Nat × g_Cl} (hx : x_ok q.2) : rows_ok (m_rn1 most F w q) := by
  unfold m_rn1
  split
  · exact rows_W hx _ (m_L_bd hF) h
  · exact h
theorem m_mk55 (hN : 60 ≤ N) (hN2 : 30000 ≤ N) (hmo : most ≤ 30) (h7 : S.1 7 = Int32.ofNat most) (hQ : q_rep S Q) {F : List j_R} (hF : ∀ r, r ∈ F → r_bd r ∧ r_sz r) (k17 : Int32 → MS → Option (Int32 × MS)) : ∀ (n d c : Nat) (w : j_W) (fc rn : Nat) (uf an ho fs al : Int32) (a17 a18 a19 a20 a21 : Nat → Int32), c + n = Q.length → n < d → m_rp a17 fc most w → j_pre F w.1 → rows_ok w →
    ∃ (fc' : Nat) (an' ho' fs' al' : Int32) (a17' a18' a19' a20' a21' : Nat → Int32), fn_Md_made_55 N k17 d (Int32.ofNat c) (ks S fc F.length rn uf an ho fs al a17 a18 a19 a20 a21) = k17 (if fc' ≤ F.length then Int32.ofInt 0 else Int32.ofInt 1) (ks S fc' F.length (rn + 1) uf an' ho' fs' al' a17' a18' a19' a20' a21') ∧ m_rp a17' fc' most ((Q.drop c).foldl (m_rn1 most F) w) ∧ j_pre F ((Q.drop c).foldl (m_rn1 most F) w).1 ∧ rows_ok ((Q.drop c).foldl (m_rn1 most F) w) := by
  have ad1 : ∀ q : Nat, Int32.ofNat q + Int32.ofInt 1 = Int32.ofNat (q + 1) := fun q => by rw [n_1, n_add]
  have hQ30 := hQ.2.1
  intro n
  induction n with
  | zero =>
    intro d c w fc rn uf an ho fs al a17 a18 a19 a20 a21 hc hd hrp hpr hro
    obtain ⟨d, rfl⟩ : ∃ d', d = d' + 1 := ⟨d - 1, by omega⟩
    have hfc : fc ≤ 31 := by
      rw [hrp.2.2.1]; have := hrp.1; split <;> omega
    have hF30 : F.length ≤ 30 := by have := hpr.1; have := hrp.1; omega
    rw [List.drop_eq_nil_of_le (by omega)]
    refine ⟨fc, an, ho, fs, al, a17, a18, a19, a20, a21, ?_, hrp, hpr, hro⟩
    rw [fe_Md_made_55, ks_g15, hQ.1, if_pos (n_leT (by omega) (by omega))]
    unfold fn_Md_made_111
    simp only [ks_g36, ad1, ks_u36, ks_pr, ks_g32, ks_g33]
    by_cases e : fc ≤ F.length
    · rw [if_pos (n_leT e (by omega)), if_pos e]
    · rw [if_neg (n_leF (by omega) (by omega)), if_neg e]
  | succ n ih =>
    intro d c w fc rn uf an ho fs al a17 a18 a19 a20 a21 hc hd hrp hpr hro
    obtain ⟨d, rfl⟩ : ∃ d', d = d' + 1 := ⟨d - 1, by omega⟩
    have hlt : c < Q.length := by omega
    have hdr : Q.drop c = Q[c] :: Q.drop (c + 1) := List.drop_eq_getElem_cons hlt
    obtain ⟨q1, q2, q3⟩ := hQ.2.2 c Q[c].1 Q[c].2 (List.getElem?_eq_getElem hlt)
    have hk5 := q3.2.1
    rw [hdr, List.foldl_cons, fe_Md_made_55, ks_g15, hQ.1, if_neg (n_leF (by omega) (by omega)), if_pos (show md_in (Int32.ofNat c) (md_len 9) = true by rw [n_in (by omega), ml9]; omega), ks_h9, n_nat (by omega), q2.1]
    unfold fn_Md_made_79
    rw [ad1]
    have hro1 : rows_ok (m_rn1 most F w Q[c]) := m_rows1 hF hro q3
    by_cases e : Q[c].2.1 = 1
    · rw [if_pos (show Int32.ofNat Q[c].2.1 = Int32.ofInt 1 by rw [e]; rfl)]
      obtain ⟨fc1, b17, b18, b19, b20, b21, k1, k2, k3⟩ := m_bindings (N := N) (S := S) (rn := rn) (uf := uf) (an := an) (ho := ho) (fs := fs) (al := al) (a18 := a18) (a19 := a19) (a20 := a20) (a21 := a21) hN hN2 (show c ≤ 30 by omega) hmo h7 q1 q2 q3.1 (q3.2.2.2.1 (by omega)) (fun y hy => (q3.2.2.2.2.2.1 y hy).1) q3.2.2.2.2.2.2.1 hF (add := true) (fun _ => q3.2.2.1 (by omega)) hrp hpr
      have e1 : m_rn1 most F w Q[c] = m_W true most Q[c].2 w (m_L Q[c].2 Q[c].1 F) := if_pos e
      rw [e1] at hro1
      have k1' : fn_Md_bindings N (Int32.ofNat c) (Int32.ofInt 1) (ks S fc F.length rn uf an ho fs al a17 a18 a19 a20 a21) = _ := k1
      rw [k1', Option.bind_some, e1]
      exact ih d (c + 1) _ fc1 rn uf _ _ _ _ b17 b18 b19 b20 b21 (by omega) (by omega) k2 k3 hro1
    · have hne : ¬ Int32.ofNat Q[c].2.1 = Int32.ofInt 1 := by rw [n_1]; exact n_eqF e (by omega) (by omega)
      have e1 : m_rn1 most F w Q[c] = w := if_neg e
      rw [if_neg hne, e1]
      exact ih d (c + 1) w fc rn uf an ho fs al a17 a18 a19 a20 a21 (by omega) (by omega) hrp hpr hro
/-- as the reference makes its rounds -/
def m_set (room : Nat) (Q : List (Nat × g_Cl)) : Nat → j_W → Nat → Bool × j_W × Nat
  | 0, w, n => (false, w, n)
  | k + 1, w, n => if w.2 = true then (false, w, n) else if (Q.foldl (m_rn1 room w.1) w).1.length = w.1.length ∧ (Q.foldl (m_rn1 room w.1) w).2 = false then (true, Q.foldl (m_rn1 room w.1) w, n + 1) else m_set room Q k (Q.foldl (m_rn1 room w.1) w) (n + 1)
theorem m_mk17 (hN : 60 ≤ N) (hN2 : 30000 ≤ N) (hmo : most ≤ 30) (h7 : S.1 7 = Int32.ofNat most) {more : Nat} (hmr : more ≤ 12) (h8 : S.1 8 = Int32.ofNat more) (hQ : q_rep S Q) : ∀ (k d n : Nat) (w : j_W) (fc od : Nat) (uf an ho fs al : Int32) (a17 a18 a19 a20 a21 : Nat → Int32), n + k = more → k + 1 < d → m_rp a17 fc most w → rows_ok w →
    ∃ (fc' od' : Nat) (an' ho' fs' al' : Int32) (a17' a18' a19' a20' a21' : Nat → Int32), fn_Md_made_17 N d (Int32.ofInt 1) (ks S fc od n uf an ho fs al a17 a18 a19 a20 a21) = some (j_b (m_set most Q k w n).1, ks S fc' od' (m_set most Q k w n).2.2 uf an' ho' fs' al' a17' a18' a19' a20' a21') ∧ m_rp a17' fc' most (m_set most Q k w n).2.1 ∧ rows_ok (m_set most Q k w n).2.1 ∧ ((m_set most Q k w n).1 = true → od' = (m_set most Q k w n).2.1.1.length) := by
  intro k
  have hend : ∀ (fc od n : Nat) (w : j_W) (uf an ho fs al : Int32) (a17 a18 a19 a20 a21 : Nat → Int32), m_rp a17 fc most w → fn_Md_made_115 N (ks S fc od n uf an ho fs al a17 a18 a19 a20 a21) = some (j_b (!w.2), ks S fc fc n uf an ho fs al a17 a18 a19 a20 a21) := by
    intro fc od n w uf an ho fs al a17 a18 a19 a20 a21 hrp
    have hl := hrp.1
    have h3 := hrp.2.2.1
    unfold fn_Md_made_115 fn_Md_made_139
    simp only [ks_g32, ks_u33, ks_pr, ks_g7, h7, if_pos n_b0, if_pos n_b1]
    cases hv : w.2 with
    | true =>
      rw [hv] at h3
      have h3 : fc = most + 1 := h3
      rw [if_pos (n_ltT (by omega) (by omega))]
      rfl
    | false =>
      rw [hv] at h3
      have h3 : fc = w.1.length := h3
      rw [if_neg (n_ltF (by omega) (by omega))]
      rfl
  have hov : ∀ (d fc od n : Nat) (w : j_W) (uf an ho fs al : Int32) (a17 a18 a19 a20 a21 : Nat → Int32), m_rp a17 fc most w → w.2 = true → fn_Md_made_17 N (d + 1) (Int32.ofInt 1) (ks S fc od n uf an ho fs al a17 a18 a19 a20 a21) = some (j_b false, ks S fc fc n uf an ho fs al a17 a18 a19 a20 a21) := by
    intro d fc od n w uf an ho fs al a17 a18 a19 a20 a21 hrp hv
    have h3 := hrp.2.2.1
    rw [hv] at h3
    have h3 : fc = most + 1 := h3
    rw [fe_Md_made_17, if_neg n_ne10, ks_g7, ks_g32, h7, if_pos (n_ltT (by omega) (by omega)), hend fc od n w uf an ho fs al a17 a18 a19 a20 a21 hrp, hv]
    rfl
  induction k with
  | zero =>
    intro d n w fc od uf an ho fs al a17 a18 a19 a20 a21 hn hd hrp hro
    obtain ⟨d, rfl⟩ : ∃ d', d = d' + 1 := ⟨d - 1, by omega⟩
    have e0 : m_set most Q 0 w n = (false, w, n) := rfl
    rw [e0]
    cases hv : w.2 with
    | true =>
      exact ⟨fc, fc, an, ho, fs, al, a17, a18, a19, a20, a21, hov d fc od n w uf an ho fs al a17 a18 a19 a20 a21 hrp hv, hrp, hro, fun q => by cases q⟩
    | false =>
      have h3 := hrp.2.2.1
      rw [hv] at h3
      have h3 : fc = w.1.length := h3
      have hl := hrp.1
      refine ⟨fc, od, an, ho, fs, al, a17, a18, a19, a20, a21, ?_, hrp, hro, fun q => by cases q⟩
      rw [fe_Md_made_17, if_neg n_ne10, ks_g7, ks_g32, h7, if_neg (n_ltF (by omega) (by omega)), ks_g36, ks_g8, h8, if_pos (n_eqT (by omega)), if_pos n_b0]
      rfl
  | succ k ih =>
    intro d n w fc od uf an ho fs al a17 a18 a19 a20 a21 hn hd hrp hro
    obtain ⟨d, rfl⟩ : ∃ d', d = d' + 1 := ⟨d - 1, by omega⟩
    unfold m_set
    cases hv : w.2 with
    | true =>
      rw [if_pos rfl]
      exact ⟨fc, fc, an, ho, fs, al, a17, a18, a19, a20, a21, hov d fc od n w uf an ho fs al a17 a18 a19 a20 a21 hrp hv, hrp, hro, fun q => by cases q⟩
    | false =>
      have h3 := hrp.2.2.1
      rw [hv] at h3
      have h3 : fc = w.1.length := h3
      have hl := hrp.1
      rw [if_neg (by decide)]
      have hQ30 := hQ.2.1
      obtain ⟨fc1, an1, ho1, fs1, al1, b17, b18, b19, b20, b21, k1, k2, k3, k4⟩ := m_mk55 (N := N) (S := S) hN hN2 hmo h7 hQ (F := w.1) hro (fn_Md_made_17 N d) Q.length N 0 w fc n uf an ho fs al a17 a18 a19 a20 a21 (by omega) (by omega) hrp ⟨Nat.le_refl _, fun _ _ h => h⟩ hro
      rw [List.drop_zero] at k2 k3 k4
      have hst : fn_Md_made_17 N (d + 1) (Int32.ofInt 1) (ks S fc od n uf an ho fs al a17 a18 a19 a20 a21) = fn_Md_made_17 N d (if fc1 ≤ w.1.length then Int32.ofInt 0 else Int32.ofInt 1) (ks S fc1 w.1.length (n + 1) uf an1 ho1 fs1 al1 b17 b18 b19 b20 b21) := by
        rw [fe_Md_made_17, if_neg n_ne10, ks_g7, ks_g32, h7, if_neg (n_ltF (by omega) (by omega)), ks_g36, ks_g8, h8, if_neg (n_eqF (by omega) (by omega) (by omega)), n_0, ks_u33, ks_pr]
        rw [n_0] at k1
        rw [← k1, h3]
      rw [hst]
      have hl1 := k2.1
      have h31 := k2.2.2.1
      have hp1 := k3.1
      by_cases e : (Q.foldl (m_rn1 most w.1) w).1.length = w.1.length ∧ (Q.foldl (m_rn1 most w.1) w).2 = false
      · rw [if_pos e]
        rw [e.2] at h31
        have h31 : fc1 = (Q.foldl (m_rn1 most w.1) w).1.length := h31
        rw [if_pos (by omega)]
        obtain ⟨d, rfl⟩ : ∃ d', d = d' + 1 := ⟨d - 1, by omega⟩
        refine ⟨fc1, fc1, an1, ho1, fs1, al1, b17, b18, b19, b20, b21, ?_, k2, k4, fun _ => h31⟩
        rw [fe_Md_made_17, if_pos n_e00, hend fc1 _ _ _ uf an1 ho1 fs1 al1 b17 b18 b19 b20 b21 k2, e.2]
        rfl
      · rw [if_neg e]
        have hfc1 : ¬ fc1 ≤ w.1.length := by
          cases hv1 : (Q.foldl (m_rn1 most w.1) w).2 with
          | true =>
            rw [hv1] at h31
            have h31 : fc1 = most + 1 := h31
            omega
          | false =>
            rw [hv1] at h31
            have h31 : fc1 = (Q.foldl (m_rn1 most w.1) w).1.length := h31
            have : ¬ (Q.foldl (m_rn1 most w.1) w).1.length = w.1.length := fun q => e ⟨q, hv1⟩
            omega
        rw [if_neg hfc1]
        exact ih d (n + 1) _ fc1 w.1.length uf an1 ho1 fs1 al1 b17 b18 b19 b20 b21 (by omega) (by omega) k2 k4
theorem m_made (hN : 60 ≤ N) (hN2 : 30000 ≤ N) (hmo : most ≤ 30) (h7 : S.1 7 = Int32.ofNat most) {more : Nat} (hmr : more ≤ 12) (h8 : S.1 8 = Int32.ofNat more) (hQ : q_rep S Q) {w : j_W} {fc od : Nat} {uf an ho fs al : Int32} {a17 a18 a19 a20 a21 : Nat → Int32} (hrp : m_rp a17 fc most w) (hro : rows_ok w) :
    ∃ (fc' od' : Nat) (an' ho' fs' al' : Int32) (a17' a18' a19' a20' a21' : Nat → Int32), fn_Md_made N (ks S fc od 0 uf an ho fs al a17 a18 a19 a20 a21) = some (j_b (m_set most Q more w 0).1, ks S fc' od' (m_set most Q more w 0).2.2 uf an' ho' fs' al' a17' a18' a19' a20' a21') ∧ m_rp a17' fc' most (m_set most Q more w 0).2.1 ∧ rows_ok (m_set most Q more w 0).2.1 ∧ ((m_set most Q more w 0).1 = true → od' = (m_set most Q more w 0).2.1.1.length) := by
  have key := m_mk17 (N := N) (S := S) hN hN2 hmo h7 hmr h8 hQ more N 0 w fc od uf an ho fs al a17 a18 a19 a20 a21 (by omega) (by omega) hrp hro
  have h3 := hrp.2.2.1
  have hl := hrp.1
  unfold fn_Md_made fn_Md_made_0 fn_Md_made_16
  rw [ks_g7, ks_g32, h7]
  cases hv : w.2 with
  | false =>
    rw [hv] at h3
    have h3 : fc = w.1.length := h3
    rw [if_neg (n_ltF (by omega) (by omega))]
    exact key
  | true =>
    rw [hv] at h3
    have h3 : fc = most + 1 := h3
    rw [if_pos (n_ltT (by omega) (by omega))]
    obtain ⟨N', rfl⟩ : ∃ N', N = N' + 1 := ⟨N - 1, by omega⟩
    obtain ⟨fc', od', an', ho', fs', al', b17, b18, b19, b20, b21, k1, k2, k3, k4⟩ := key
    refine ⟨fc', od', an', ho', fs', al', b17, b18, b19, b20, b21, ?_, k2, k3, k4⟩
    rw [fe_Md_made_17, if_pos n_e00]
    rw [fe_Md_made_17, if_neg n_ne10, ks_g7, ks_g32, h7, if_pos (n_ltT (by omega) (by omega))] at k1
    exact k1
end MMA
