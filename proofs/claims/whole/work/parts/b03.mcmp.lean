/-! ### The reference works steps out -/
theorem m_joined54 {N : Nat} {x : Int64} {z : Int} (e : x.toInt = z) : fn_Md_joined_54 N x = some (if z < -99999 ∨ 99999 < z then md_E else Int32.ofInt z) := by
  unfold fn_Md_joined_54 fn_Md_joined_74 fn_Md_joined_82
  have m1 : (-99999 : Int64).toInt = -99999 := by decide
  have m2 : (99999 : Int64).toInt = 99999 := by decide
  by_cases e1 : z < -99999
  · rw [if_pos ((lg_lt _ _).mpr (by rw [e, m1]; exact e1)), if_pos (Or.inl e1)]
  · rw [if_neg (fun q => e1 (by have := (lg_lt _ _).mp q; rw [e, m1] at this; exact this))]
    by_cases e2 : 99999 < z
    · rw [if_neg (fun q => by have := (lg_le _ _).mp q; rw [e, m2] at this; omega), if_pos (Or.inr e2)]
    · rw [if_pos ((lg_le _ _).mpr (by rw [e, m2]; omega)), if_neg (by omega), l_32 e (by omega) (by omega)]
theorem m_joined {N : Nat} {s : Nat} (hs : s = 42 ∨ s = 43 ∨ s = 45 ∨ s = 47) {l r : Int32} (h1 : j_bd l) (h2 : j_bd r) : fn_Md_joined N (Int32.ofInt (g_enc (-(s : Int)))) l.toInt64 r.toInt64 = some ((j_calc s l r).getD md_E) := by
  unfold fn_Md_joined fn_Md_joined_0 fn_Md_joined_15 j_calc
  have c11 : (Int8.ofInt (-11)).toInt32 = Int32.ofInt (-11) := by decide
  have c12 : (Int8.ofInt (-12)).toInt32 = Int32.ofInt (-12) := by decide
  have c13 : (Int8.ofInt (-13)).toInt32 = Int32.ofInt (-13) := by decide
  have c14 : (Int8.ofInt (-14)).toInt32 = Int32.ofInt (-14) := by decide
  rw [c11, c12, c13, c14]
  have fin : ∀ z : Int, (some (if z < -99999 ∨ 99999 < z then md_E else Int32.ofInt z) = some ((if z < -99999 ∨ 99999 < z then none else some (Int32.ofInt z) : Option Int32).getD md_E)) := by
    intro z
    by_cases e : z < -99999 ∨ 99999 < z
    · rw [if_pos e, if_pos e]; rfl
    · rw [if_neg e, if_neg e]; rfl
  rcases hs with rfl | rfl | rfl | rfl
  · rw [show Int32.ofInt (g_enc (-((42 : Nat) : Int))) = Int32.ofInt (-13) by decide, if_neg (by decide), if_neg (by decide), if_neg (by decide), if_pos rfl, m_joined54 (l_mul h1 h2), if_neg (show ¬ (42 : Nat) = 47 by decide)]
    simp only [show ¬ (42 : Nat) = 43 by decide, show ¬ (42 : Nat) = 45 by decide, if_false]
    exact fin _
  · rw [show Int32.ofInt (g_enc (-((43 : Nat) : Int))) = Int32.ofInt (-11) by decide, if_neg (by decide), if_pos rfl, m_joined54 (l_add l r), if_neg (show ¬ (43 : Nat) = 47 by decide)]
    simp only [if_true]
    exact fin _
  · rw [show Int32.ofInt (g_enc (-((45 : Nat) : Int))) = Int32.ofInt (-12) by decide, if_neg (by decide), if_neg (by decide), if_pos rfl, m_joined54 (l_sub l r), if_neg (show ¬ (45 : Nat) = 47 by decide)]
    simp only [show ¬ (45 : Nat) = 43 by decide, if_false, if_true]
    exact fin _
  · rw [show Int32.ofInt (g_enc (-((47 : Nat) : Int))) = Int32.ofInt (-14) by decide, if_pos rfl, if_pos rfl]
    have z0 : (Int64.ofNat (0 : Fin 2)).toInt = 0 := by decide
    have hz : lg_cmp r.toInt64 (Int64.ofNat (0 : Fin 2)) = 0 ↔ r = 0 := by
      constructor
      · intro q
        have h3 := (lg_le r.toInt64 (Int64.ofNat (0 : Fin 2))).mp (by rw [q]; decide)
        have h4 : ¬ r.toInt64.toInt < (Int64.ofNat (0 : Fin 2)).toInt := fun q2 => by
          have := (lg_lt _ _).mpr q2
          rw [q] at this
          exact absurd this (by decide)
        rw [z0, Int32.toInt_toInt64] at h3 h4
        exact Int32.toInt_inj.mp (by show r.toInt = 0; omega)
      · rintro rfl
        decide
    by_cases e : r = 0
    · rw [if_pos (hz.mpr e), if_pos e]; rfl
    · have hne : ¬ r.toInt64 = 0 := by
        intro q
        apply e
        have := congrArg Int64.toInt q
        rw [Int32.toInt_toInt64] at this
        exact Int32.toInt_inj.mp (by rw [this]; rfl)
      have hd := j_div (r := r) h1
      have hl : (l.toInt64 / r.toInt64).toInt = l.toInt.tdiv r.toInt := by
        rw [Int64.toInt_div, Int32.toInt_toInt64, Int32.toInt_toInt64]
        have h5 := hd.2
        unfold j_bd at h5
        rw [hd.1] at h5
        exact bm64 (by omega) (by omega)
      have h5 := hd.2
      unfold j_bd at h5
      rw [hd.1] at h5
      rw [if_neg (fun q => e (hz.mp q)), if_neg (by decide), if_neg (by decide), if_neg (by decide), if_pos hne, m_joined54 hl, if_neg (by omega), if_neg e]
      show some _ = some (l / r)
      congr 1
      apply Int32.toInt_inj.mp
      rw [hd.1, i_toInt (by omega) (by omega)]
theorem m_compared {N : Nat} {s : Nat} (hs : s = 60 ∨ s = 62 ∨ s = 61 ∨ s = 35) {l r : Int32} : fn_Md_compared N (Int32.ofInt (g_enc (-(s : Int)))) l r = some (if j_cmp s l r = true then Int32.ofInt 1 else Int32.ofInt 0) := by
  have nle : ∀ a b : Int32, a ≤ b ↔ ¬ b < a := fun a b => by rw [Int32.le_iff_toInt_le, Int32.lt_iff_toInt_lt]; omega
  unfold fn_Md_compared fn_Md_compared_0 fn_Md_compared_49 fn_Md_compared_59 fn_Md_compared_67 j_cmp
  have c21 : (Int8.ofInt (-21)).toInt32 = Int32.ofInt (-21) := by decide
  have c22 : (Int8.ofInt (-22)).toInt32 = Int32.ofInt (-22) := by decide
  have c23 : (Int8.ofInt (-23)).toInt32 = Int32.ofInt (-23) := by decide
  rw [c21, c22, c23]
  simp only [if_pos n_b0, if_pos n_b1]
  rcases hs with rfl | rfl | rfl | rfl
  · rw [show Int32.ofInt (g_enc (-((60 : Nat) : Int))) = Int32.ofInt (-21) by decide, if_pos rfl, if_pos rfl]
    by_cases e : l < r
    · rw [if_neg (fun q => (nle _ _).mp q e)]; simp [e]
    · rw [if_pos ((nle _ _).mpr e)]; simp [e]
  · rw [show Int32.ofInt (g_enc (-((62 : Nat) : Int))) = Int32.ofInt (-22) by decide, if_neg (by decide), if_pos rfl, if_neg (show ¬ (62 : Nat) = 60 by decide), if_pos rfl]
    by_cases e : r < l
    · rw [if_neg (fun q => (nle _ _).mp q e)]; simp [e]
    · rw [if_pos ((nle _ _).mpr e)]; simp [e]
  · rw [show Int32.ofInt (g_enc (-((61 : Nat) : Int))) = Int32.ofInt (-23) by decide, if_neg (by decide), if_neg (by decide), if_pos rfl, if_neg (show ¬ (61 : Nat) = 60 by decide), if_neg (show ¬ (61 : Nat) = 62 by decide), if_pos rfl]
    by_cases e : l = r
    · rw [if_pos e, if_pos (by decide)]; simp [e]
    · rw [if_neg e, if_neg (by decide)]; simp [e]
  · rw [show Int32.ofInt (g_enc (-((35 : Nat) : Int))) = Int32.ofInt (-24) by decide, if_neg (by decide), if_neg (by decide), if_neg (by decide), if_neg (show ¬ (35 : Nat) = 60 by decide), if_neg (show ¬ (35 : Nat) = 62 by decide), if_neg (show ¬ (35 : Nat) = 61 by decide)]
    by_cases e : l = r
    · rw [if_pos e, if_neg (by decide)]; simp [e]
    · rw [if_neg e, if_pos (by decide)]; simp [e]
theorem m_cmpop {N : Nat} {S : MS} {fc od rn : Nat} {uf an ho fs al : Int32} {a17 a18 a19 a20 a21 : Nat → Int32} {c : Nat} (hc : c ≤ 30) {L : Nat} (h14 : S.2 14 c = Int32.ofNat L) (hl : L ≤ 40) {i p d : Nat} {x : Int} {ll rr : Int32} (hi : i < L) (hp : p ≤ 38) (hx0 : S.2 15 (48 * c + i) = Int32.ofInt (g_enc x)) (hsx : x = -42 ∨ x = -43 ∨ x = -45 ∨ x = -47 ∨ x = -60 ∨ x = -62 ∨ x = -61 ∨ x = -35) (s1 : a21 (p + 1) = rr) (s2 : a21 p = ll) (hbl : j_bd ll) (hbr : j_bd rr) :
    if g_isc (-x).toNat = true then fn_Md_compare_4 N (d + 1) (Int32.ofNat c) (Int32.ofNat (p + 1 + 1)) (Int32.ofNat i) (ks S fc od rn uf an ho fs al a17 a18 a19 a20 a21) = (if j_cmp (-x).toNat ll rr = true then fn_Md_compare_4 N d (Int32.ofNat c) (Int32.ofNat p) (Int32.ofNat (i + 1)) (ks S fc od rn uf an ho fs al a17 a18 a19 a20 a21) else some (Int32.ofNat 0, ks S fc od rn uf an ho fs al a17 a18 a19 a20 a21)) else
    match j_calc (-x).toNat ll rr with
    | some z => fn_Md_compare_4 N (d + 1) (Int32.ofNat c) (Int32.ofNat (p + 1 + 1)) (Int32.ofNat i) (ks S fc od rn uf an ho fs al a17 a18 a19 a20 a21) = fn_Md_compare_4 N d (Int32.ofNat c) (Int32.ofNat (p + 1)) (Int32.ofNat (i + 1)) (ks S fc od rn uf an ho fs al a17 a18 a19 a20 (upd a21 p z))
    | none => ∃ b21, fn_Md_compare_4 N (d + 1) (Int32.ofNat c) (Int32.ofNat (p + 1 + 1)) (Int32.ofNat i) (ks S fc od rn uf an ho fs al a17 a18 a19 a20 a21) = some (Int32.ofNat 2, ks S fc od rn uf an ho fs al a17 a18 a19 a20 b21) := by
  have ad1 : ∀ q : Nat, Int32.ofNat q + Int32.ofInt 1 = Int32.ofNat (q + 1) := fun q => by rw [n_1, n_add]
  have c10 : (Int8.ofInt (-10)).toInt32 = Int32.ofInt (-10) := by decide
  have c20 : (Int8.ofInt (-20)).toInt32 = Int32.ofInt (-20) := by decide
  obtain ⟨G, hG⟩ : ∃ G, Int32.ofInt (g_enc x) = G := ⟨_, rfl⟩
  rw [hG] at hx0
  have eD : Int32.ofNat (p + 1 + 1) + Int32.ofInt (-2) = Int32.ofNat p := by
    show Int32.ofInt ((p + 1 + 1 : Nat) : Int) + Int32.ofInt (-2) = Int32.ofInt (p : Int)
    rw [← Int32.ofInt_add]
    congr 1
    omega
  have hxe : g_enc x = g_enc (-(((-x).toNat : Nat) : Int)) := by congr 1; omega
  have i0 : md_in (Int32.ofNat c) (md_len 14) = true := by rw [n_in (by omega), ml14]; omega
  have i1 : md_in (Int32.ofNat p) (md_len 21) = true := by rw [n_in (by omega), ml21]; omega
  have i2 : md_in (Int32.ofNat (p + 1)) (md_len 21) = true := by rw [n_in (by omega), ml21]; omega
  have i3 : md_in (Int32.ofNat (48 * c + i)) (md_len 15) = true := by rw [n_in (by omega), ml15]; omega
  have hle10 : G ≤ Int32.ofInt (-10) := by
    rw [← hG]
    rcases hsx with rfl | rfl | rfl | rfl | rfl | rfl | rfl | rfl <;> decide
  have e0 : fn_Md_compare_4 N (d + 1) (Int32.ofNat c) (Int32.ofNat (p + 1 + 1)) (Int32.ofNat i) (ks S fc od rn uf an ho fs al a17 a18 a19 a20 a21) = (if G ≤ Int32.ofInt (-20) then (fn_Md_compared N G ll rr).bind fun r1 => if r1 = 0 then some (Int32.ofInt 0, ks S fc od rn uf an ho fs al a17 a18 a19 a20 a21) else fn_Md_compare_4 N d (Int32.ofNat c) (Int32.ofNat p) (Int32.ofNat (i + 1)) (ks S fc od rn uf an ho fs al a17 a18 a19 a20 a21) else (fn_Md_joined N G ll.toInt64 rr.toInt64).bind fun r2 => if r2 = md_E then some (Int32.ofInt 2, ks S fc od rn uf an ho fs al a17 a18 a19 a20 (upd a21 p r2)) else fn_Md_compare_4 N d (Int32.ofNat c) (Int32.ofNat (p + 1)) (Int32.ofNat (i + 1)) (ks S fc od rn uf an ho fs al a17 a18 a19 a20 (upd a21 p r2))) := by
    rw [fe_Md_compare_4, if_pos i0, ks_h14, n_nat (show c < 2147483648 by omega), h14, if_neg (n_leF (by omega) (by omega)), n_c48, n_mul, n_add, if_pos i3, ks_h15, n_nat (show 48 * c + i < 2147483648 by omega)]
    simp only [hx0, c10, c20, if_pos hle10]
    simp only [eD, ad1, i1, i2, if_true, ks_h21, n_nat (show p < 2147483648 by omega), n_nat (show p + 1 < 2147483648 by omega), s1, s2]
    unfold fn_Md_compare_145
    simp only [ks_v21, ks_pr, ks_h21, upd_eq, ad1]
  rw [e0]
  by_cases ec : g_isc (-x).toNat = true
  · rw [if_pos ec]
    have hcs : (-x).toNat = 60 ∨ (-x).toNat = 62 ∨ (-x).toNat = 61 ∨ (-x).toNat = 35 := by
      unfold g_isc at ec
      simp only [Bool.or_eq_true, beq_iff_eq] at ec
      omega
    have hle20 : G ≤ Int32.ofInt (-20) := by
      rw [← hG]
      have : x = -60 ∨ x = -62 ∨ x = -61 ∨ x = -35 := by omega
      rcases this with rfl | rfl | rfl | rfl <;> decide
    have kk := m_compared (N := N) hcs (l := ll) (r := rr)
    rw [← hxe, hG] at kk
    rw [if_pos hle20, kk, Option.bind_some]
    by_cases ek : j_cmp (-x).toNat ll rr = true
    · rw [if_pos ek, if_pos ek, if_neg n_ne10]
    · rw [if_neg ek, if_neg ek, if_pos n_e00]
      rfl
  · rw [if_neg ec]
    have hcs : (-x).toNat = 42 ∨ (-x).toNat = 43 ∨ (-x).toNat = 45 ∨ (-x).toNat = 47 := by
      unfold g_isc at ec
      simp only [Bool.or_eq_true, beq_iff_eq] at ec
      omega
    have hle20 : ¬ G ≤ Int32.ofInt (-20) := by
      rw [← hG]
      have : x = -42 ∨ x = -43 ∨ x = -45 ∨ x = -47 := by omega
      rcases this with rfl | rfl | rfl | rfl <;> decide
    have kk := m_joined (N := N) hcs hbl hbr
    rw [← hxe, hG] at kk
    rw [if_neg hle20, kk, Option.bind_some]
    have kc := c_calc (N := 0) (C := (0, 0)) (h := (0, 0, fun _ => .inr (0, []))) hcs hbl hbr
    cases ej : j_calc (-x).toNat ll rr with
    | none =>
      simp only [Option.getD_none]
      rw [if_pos trivial]
      exact ⟨_, rfl⟩
    | some z =>
      have hz := kc.2 z ej
      have hne : ¬ z = md_E := by
        rintro rfl
        exact absurd hz.2 (by decide)
      simp only [Option.getD_some]
      rw [if_neg hne]
section MCP
variable {N : Nat} {S : MS} {fc od rn : Nat} {uf an ho fs al : Int32} {a17 a18 a19 a20 : Nat → Int32}
theorem m_cmp4 {c : Nat} (hc : c ≤ 30) {l : List Int} {v : Nat → Int32} (h14 : S.2 14 c = Int32.ofNat l.length) (h15 : ∀ i y, l[i]? = some y → S.2 15 (48 * c + i) = Int32.ofInt (g_enc y)) (hl : l.length ≤ 40) : ∀ (xs : List Int) (d i : Nat) (st : List Int32) (a21 : Nat → Int32), i + xs.length = l.length → (∀ j x, xs[j]? = some x → l[i + j]? = some x) → xs.length < d → sk_rep a21 st → (∀ z, z ∈ st → j_bd z) → st.length + xs.length ≤ 40 → wdp xs st.length ≠ none → (∀ x, x ∈ xs → j_sv x) → (∀ x, x ∈ xs → ¬ x < 1048576 → a20 (j_ix x) = v (j_ix x) ∧ j_bd (v (j_ix x))) →
    ∃ a21', fn_Md_compare_4 N d (Int32.ofNat c) (Int32.ofNat st.length) (Int32.ofNat i) (ks S fc od rn uf an ho fs al a17 a18 a19 a20 a21) = some (Int32.ofNat (j_wk v xs st), ks S fc od rn uf an ho fs al a17 a18 a19 a20 a21')
  | xs, 0, i, st, a21, hi, hx, hd, hs, hb, hn, hw, hv, hva => absurd hd (by omega)
  | [], d + 1, i, st, a21, hi, hx, hd, hs, hb, hn, hw, hv, hva => by
    simp only [List.length_nil, Nat.add_zero] at hi
    refine ⟨a21, ?_⟩
    rw [fe_Md_compare_4, if_pos (show md_in (Int32.ofNat c) (md_len 14) = true by rw [n_in (by omega), ml14]; omega), ks_h14, n_nat (by omega), h14, if_pos (n_leT (by omega) (by omega))]
    rfl
  | x :: xs, d + 1, i, st, a21, hi, hx, hd, hs, hb, hn, hw, hv, hva => by
    simp only [List.length_cons] at hi hd hn
    have hx0 : S.2 15 (48 * c + i) = Int32.ofInt (g_enc x) := h15 i x (hx 0 x rfl)
    have hsv := hv x List.mem_cons_self
    have hxs : ∀ j y, xs[j]? = some y → l[i + 1 + j]? = some y := fun j y q => by
      have := hx (j + 1) y q
      rw [show i + (j + 1) = i + 1 + j by omega] at this
      exact this
    have hv' : ∀ y, y ∈ xs → j_sv y := fun y q => hv y (List.mem_cons_of_mem _ q)
    have hva' : ∀ y, y ∈ xs → ¬ y < 1048576 → a20 (j_ix y) = v (j_ix y) ∧ j_bd (v (j_ix y)) := fun y q => hva y (List.mem_cons_of_mem _ q)
    have ad1 : ∀ q : Nat, Int32.ofNat q + Int32.ofInt 1 = Int32.ofNat (q + 1) := fun q => by rw [n_1, n_add]
    have c10 : (Int8.ofInt (-10)).toInt32 = Int32.ofInt (-10) := by decide
    have c20 : (Int8.ofInt (-20)).toInt32 = Int32.ofInt (-20) := by decide
    have z0 : (0 : Int32) = Int32.ofInt 0 := rfl
    have hge : -2147483648 ≤ g_enc x ∧ g_enc x < 2147483648 := by
      unfold j_sv j_tv at hsv
      unfold g_enc
      split
      · omega
      · split
        · omega
        · repeat' (first | (split; omega) | omega)
    by_cases e : 0 ≤ x
    · have htv : j_tv x := by
        rcases hsv with ⟨_, h⟩ | h
        · exact h
        · omega
      have hbv : j_bd (j_val v x) := by
        unfold j_val
        by_cases q : x < 1048576
        · rw [if_pos q]
          have h3 : (Int32.ofInt x).toInt = x := i_toInt (by unfold j_tv at htv; omega) (by unfold j_tv at htv; omega)
          unfold j_tv at htv
          exact ⟨by rw [h3]; omega, by rw [h3]; omega⟩
        · rw [if_neg q]
          exact (hva x List.mem_cons_self q).2
      have fin : ∃ a21', fn_Md_compare_58 N (fn_Md_compare_4 N d) (Int32.ofNat c) (Int32.ofNat st.length) (Int32.ofNat i) (Int32.ofNat st.length) (j_val v x) (ks S fc od rn uf an ho fs al a17 a18 a19 a20 a21) = some (Int32.ofNat (j_wk v xs (j_val v x :: st)), ks S fc od rn uf an ho fs al a17 a18 a19 a20 a21') := by
        unfold fn_Md_compare_58 fn_Md_compare_145
        rw [if_pos (show md_in (Int32.ofNat st.length) (md_len 21) = true by rw [n_in (by omega), ml21]; omega), n_nat (by omega), ks_h21, ks_v21, ks_pr, ad1, ad1]
        refine m_cmp4 hc h14 h15 hl xs d (i + 1) (j_val v x :: st) _ (by omega) hxs (by omega) ⟨upd_eq _ _ _, sk_upd (Nat.le_refl _) hs⟩ ?_ (by simp only [List.length_cons]; omega) ?_ hv' hva'
        · intro z hz
          rcases List.mem_cons.mp hz with rfl | hz
          · exact hbv
          · exact hb z hz
        · intro q
          apply hw
          unfold wdp
          rw [if_pos e]
          exact q
      obtain ⟨G, hG⟩ : ∃ G, Int32.ofInt (g_enc x) = G := ⟨_, rfl⟩
      rw [hG] at hx0
      rw [fe_Md_compare_4, if_pos (show md_in (Int32.ofNat c) (md_len 14) = true by rw [n_in (by omega), ml14]; omega), ks_h14, n_nat (by omega), h14, if_neg (n_leF (by omega) (by omega)), n_c48, n_mul, n_add, if_pos (show md_in (Int32.ofNat (48 * c + i)) (md_len 15) = true by rw [n_in (by omega), ml15]; omega), ks_h15, n_nat (by omega)]
      simp only [hx0, c10, c20]
      unfold j_wk
      simp only [if_pos e]
      by_cases q : x < 1048576
      · have hg : g_enc x = x := by
          unfold g_enc
          rw [if_neg (by omega), if_pos e]
        have hjv : j_val v x = Int32.ofInt x := if_pos q
        have hxb : -2147483648 ≤ x ∧ x < 2147483648 := by omega
        have hG1 : ¬ G ≤ Int32.ofInt (-10) := by
          rw [← hG, hg, i_le hxb.1 hxb.2 (by decide) (by decide)]; omega
        have hG2 : ¬ G < 0 := by
          rw [← hG, hg, z0, i_lt hxb.1 hxb.2 (by decide) (by decide)]; omega
        have hG3 : G = j_val v x := by rw [← hG, hg, hjv]
        simp only [if_neg hG1, if_neg hG2]
        rw [← hG3] at fin ⊢
        exact fin
      · have h8 := j_ix_lt htv q
        have hg : g_enc x = -1 - (j_ix x : Int) := by
          unfold g_enc
          rw [if_pos (by omega)]
          omega
        have hjv : j_val v x = a20 (j_ix x) := (if_neg q).trans (hva x List.mem_cons_self q).1.symm
        have hi2 : Int32.ofInt (-1) - G = Int32.ofNat (j_ix x) := by
          rw [← hG, hg, ← Int32.ofInt_sub]
          show _ = Int32.ofInt (j_ix x : Int)
          congr 1
          omega
        have hG1 : ¬ G ≤ Int32.ofInt (-10) := by
          rw [← hG, hg, i_le (by omega) (by omega) (by decide) (by decide)]; omega
        have hG2 : G < 0 := by
          rw [← hG, hg, z0, i_lt (by omega) (by omega) (by decide) (by decide)]; omega
        have hi3 : md_in (Int32.ofNat (j_ix x)) (md_len 20) = true := by rw [n_in (by omega), ml20]; exact h8.1
        simp only [if_neg hG1, if_pos hG2, hi2, if_pos hi3, n_nat (show j_ix x < 2147483648 by omega), ks_h20, ← hjv]
        exact fin
    · have hsx : x = -42 ∨ x = -43 ∨ x = -45 ∨ x = -47 ∨ x = -60 ∨ x = -62 ∨ x = -61 ∨ x = -35 := by
        rcases hsv with ⟨h, -⟩ | h
        · omega
        · exact h
      unfold wdp at hw
      rw [if_neg e] at hw
      have h2d : ¬ st.length < 2 := fun q => hw (if_pos q)
      rw [if_neg h2d] at hw
      cases st with
      | nil => exact absurd (show 0 < 2 by omega) h2d
      | cons rr st =>
      cases st with
      | nil => exact absurd (show 1 < 2 by omega) h2d
      | cons ll st =>
        simp only [List.length_cons] at hn hw
        have hbr := hb rr List.mem_cons_self
        have hbl := hb ll (List.mem_cons_of_mem _ List.mem_cons_self)
        have hbs : ∀ z, z ∈ st → j_bd z := fun z hz => hb z (List.mem_cons_of_mem _ (List.mem_cons_of_mem _ hz))
        obtain ⟨s1, s2, s3⟩ := hs
        simp only [List.length_cons] at s1
        have ko := m_cmpop (N := N) (S := S) (fc := fc) (od := od) (rn := rn) (uf := uf) (an := an) (ho := ho) (fs := fs) (al := al) (a17 := a17) (a18 := a18) (a19 := a19) (a20 := a20) (a21 := a21) hc h14 hl (i := i) (x := x) (p := st.length) (d := d) (by omega) (by omega) hx0 hsx s1 s2 hbl hbr
        unfold j_wk
        simp only [if_neg e, List.length_cons]
        by_cases ec : g_isc (-x).toNat = true
        · rw [if_pos ec] at hw ko
          rw [if_pos ec]
          by_cases ek : j_cmp (-x).toNat ll rr = true
          · rw [if_pos ek] at ko
            rw [ko, if_pos ek]
            exact m_cmp4 hc h14 h15 hl xs d (i + 1) st a21 (by omega) hxs (by omega) s3 hbs (by omega) hw hv' hva'
          · rw [if_neg ek] at ko
            rw [ko, if_neg ek]
            exact ⟨a21, rfl⟩
        · rw [if_neg ec] at hw ko
          rw [if_neg ec]
          have hcs : (-x).toNat = 42 ∨ (-x).toNat = 43 ∨ (-x).toNat = 45 ∨ (-x).toNat = 47 := by
            unfold g_isc at ec
            simp only [Bool.or_eq_true, beq_iff_eq] at ec
            omega
          have kc := c_calc (N := 0) (C := (0, 0)) (h := (0, 0, fun _ => .inr (0, []))) hcs hbl hbr
          cases ej : j_calc (-x).toNat ll rr with
          | none =>
            rw [ej] at ko
            obtain ⟨b21, ko⟩ := ko
            exact ⟨b21, ko⟩
          | some z =>
            have hz := kc.2 z ej
            rw [ej] at ko
            simp only at ko
            rw [ko]
            refine m_cmp4 hc h14 h15 hl xs d (i + 1) (z :: st) _ (by omega) hxs (by omega) ⟨upd_eq _ _ _, sk_upd (Nat.le_refl _) s3⟩ ?_ (by simp only [List.length_cons]; omega) ?_ hv' hva'
            · intro y hy
              rcases List.mem_cons.mp hy with rfl | hy
              · exact hz
              · exact hbs y hy
            · simp only [List.length_cons]
              exact hw
theorem m_compare (hN : 60 ≤ N) {c : Nat} (hc : c ≤ 30) {l : List Int} {v a21 : Nat → Int32} (h14 : S.2 14 c = Int32.ofNat l.length) (h15 : ∀ i y, l[i]? = some y → S.2 15 (48 * c + i) = Int32.ofInt (g_enc y)) (hl : l.length ≤ 40) (hw : wdp l 0 ≠ none) (hv : ∀ x, x ∈ l → j_sv x) (hva : ∀ x, x ∈ l → ¬ x < 1048576 → a20 (j_ix x) = v (j_ix x) ∧ j_bd (v (j_ix x))) :
    ∃ a21', fn_Md_compare N (Int32.ofNat c) (ks S fc od rn uf an ho fs al a17 a18 a19 a20 a21) = some (Int32.ofNat (j_wk v l []), ks S fc od rn uf an ho fs al a17 a18 a19 a20 a21') := by
  unfold fn_Md_compare fn_Md_compare_0
  rw [n_0]
  exact m_cmp4 hc h14 h15 hl l N 0 [] a21 (by omega) (fun j x q => by rw [Nat.zero_add]; exact q) (by omega) trivial (fun z hz => by cases hz) (by simp only [List.length_nil]; omega) hw hv hva
end MCP
