/-! ### The reference's add -/
def m_rp (a17 : Nat → Int32) (fc most : Nat) (w : j_W) : Prop := w.1.length ≤ most ∧ (w.2 = true → w.1.length = most) ∧ fc = (if w.2 = true then most + 1 else w.1.length) ∧ ∀ (i : Nat) (r : j_R), w.1[i]? = some r → r_row a17 i = r
theorem j_off_ov {room : Nat} {r : j_R} {G : List j_R} (h : room ≤ G.length) : j_off room r G true = (G, true) := by
  unfold j_off
  by_cases e : r ∈ G
  · rw [if_pos e]
  · rw [if_neg e, if_pos h]
theorem r_row_eq (a17 : Nat → Int32) (i : Nat) (r : j_R) : r_row a17 i = r ↔ a17 (5 * i) = r.1 ∧ a17 (5 * i + 1) = r.2.1 ∧ a17 (5 * i + 2) = r.2.2.1 ∧ a17 (5 * i + 3) = r.2.2.2.1 ∧ a17 (5 * i + 4) = r.2.2.2.2 := by
  unfold r_row
  constructor
  · rintro rfl
    exact ⟨rfl, rfl, rfl, rfl, rfl⟩
  · obtain ⟨x1, x2, x3, x4, x5⟩ := r
    rintro ⟨rfl, rfl, rfl, rfl, rfl⟩
    rfl
section MAD
variable {N : Nat} {S : MS} {fc od rn : Nat} {uf an ho fs al : Int32} {a17 a18 a19 a20 a21 : Nat → Int32}
theorem m_ad3s {i d : Nat} (hi : i < fc) (hfc : fc ≤ 31) (r : j_R) : fn_Md_add_3 N (d + 1) r.1 r.2.1 r.2.2.1 r.2.2.2.1 r.2.2.2.2 (Int32.ofNat i) (ks S fc od rn uf an ho fs al a17 a18 a19 a20 a21) = if r_row a17 i = r then some (0, ks S fc od rn uf an ho fs al a17 a18 a19 a20 a21) else fn_Md_add_3 N d r.1 r.2.1 r.2.2.1 r.2.2.2.1 r.2.2.2.2 (Int32.ofNat (i + 1)) (ks S fc od rn uf an ho fs al a17 a18 a19 a20 a21) := by
  have ad1 : ∀ q : Nat, Int32.ofNat q + Int32.ofInt 1 = Int32.ofNat (q + 1) := fun q => by rw [n_1, n_add]
  have i0 : md_in (Int32.ofNat (5 * i)) (md_len 17) = true := by rw [n_in (by omega), ml17]; omega
  have i1 : md_in (Int32.ofNat (5 * i + 1)) (md_len 17) = true := by rw [n_in (by omega), ml17]; omega
  have i2 : md_in (Int32.ofNat (5 * i + 2)) (md_len 17) = true := by rw [n_in (by omega), ml17]; omega
  have i3 : md_in (Int32.ofNat (5 * i + 3)) (md_len 17) = true := by rw [n_in (by omega), ml17]; omega
  have i4 : md_in (Int32.ofNat (5 * i + 4)) (md_len 17) = true := by rw [n_in (by omega), ml17]; omega
  rw [fe_Md_add_3, ks_g32, if_neg (n_leF hi (by omega))]
  unfold fn_Md_add_84
  rw [n_5, n_mul, n_1, n_2, n_3, n_4, n_add, n_add, n_add, n_add, n_add, if_pos i0, if_pos i1, if_pos i2, if_pos i3, if_pos i4, ks_h17, n_nat (by omega), n_nat (by omega), n_nat (by omega), n_nat (by omega), n_nat (by omega)]
  by_cases c0 : a17 (5 * i) = r.1
  · by_cases c1 : a17 (5 * i + 1) = r.2.1
    · by_cases c2 : a17 (5 * i + 2) = r.2.2.1
      · by_cases c3 : a17 (5 * i + 3) = r.2.2.2.1
        · by_cases c4 : a17 (5 * i + 4) = r.2.2.2.2
          · rw [if_pos c0, if_pos c1, if_pos c2, if_pos c3, if_pos c4, if_pos ((r_row_eq _ _ _).mpr ⟨c0, c1, c2, c3, c4⟩)]
          · rw [if_pos c0, if_pos c1, if_pos c2, if_pos c3, if_neg c4, if_neg (fun q => c4 ((r_row_eq _ _ _).mp q).2.2.2.2)]
        · rw [if_pos c0, if_pos c1, if_pos c2, if_neg c3, if_neg (fun q => c3 ((r_row_eq _ _ _).mp q).2.2.2.1)]
      · rw [if_pos c0, if_pos c1, if_neg c2, if_neg (fun q => c2 ((r_row_eq _ _ _).mp q).2.2.1)]
    · rw [if_pos c0, if_neg c1, if_neg (fun q => c1 ((r_row_eq _ _ _).mp q).2.1)]
  · rw [if_neg c0, if_neg (fun q => c0 ((r_row_eq _ _ _).mp q).1)]
def u5 (a17 : Nat → Int32) (k : Nat) (r : j_R) : Nat → Int32 := upd (upd (upd (upd (upd a17 (5 * k) r.1) (5 * k + 1) r.2.1) (5 * k + 2) r.2.2.1) (5 * k + 3) r.2.2.2.1) (5 * k + 4) r.2.2.2.2
theorem u5_at (a17 : Nat → Int32) (k : Nat) (r : j_R) : r_row (u5 a17 k r) k = r := by
  rw [r_row_eq]
  unfold u5
  refine ⟨?_, ?_, ?_, ?_, ?_⟩
  · rw [upd_ne (by omega), upd_ne (by omega), upd_ne (by omega), upd_ne (by omega), upd_eq]
  · rw [upd_ne (by omega), upd_ne (by omega), upd_ne (by omega), upd_eq]
  · rw [upd_ne (by omega), upd_ne (by omega), upd_eq]
  · rw [upd_ne (by omega), upd_eq]
  · rw [upd_eq]
theorem u5_ne {a17 : Nat → Int32} {k i : Nat} {r : j_R} (h : i ≠ k) : r_row (u5 a17 k r) i = r_row a17 i := by
  unfold r_row u5
  rw [upd_ne (by omega), upd_ne (by omega), upd_ne (by omega), upd_ne (by omega), upd_ne (by omega), upd_ne (by omega), upd_ne (by omega), upd_ne (by omega), upd_ne (by omega), upd_ne (by omega), upd_ne (by omega), upd_ne (by omega), upd_ne (by omega), upd_ne (by omega), upd_ne (by omega), upd_ne (by omega), upd_ne (by omega), upd_ne (by omega), upd_ne (by omega), upd_ne (by omega), upd_ne (by omega), upd_ne (by omega), upd_ne (by omega), upd_ne (by omega), upd_ne (by omega)]
theorem m_ad3e {most d : Nat} (h7 : S.1 7 = Int32.ofNat most) (hmo : most ≤ 30) (hfc : fc ≤ 31) (r : j_R) : fn_Md_add_3 N (d + 1) r.1 r.2.1 r.2.2.1 r.2.2.2.1 r.2.2.2.2 (Int32.ofNat fc) (ks S fc od rn uf an ho fs al a17 a18 a19 a20 a21) = if fc ≤ most then some (0, ks S (fc + 1) od rn uf an ho fs al (u5 a17 fc r) a18 a19 a20 a21) else some (0, ks S fc od rn uf an ho fs al a17 a18 a19 a20 a21) := by
  have i0 : md_in (Int32.ofNat (5 * fc)) (md_len 17) = true := by rw [n_in (by omega), ml17]; omega
  have i1 : md_in (Int32.ofNat (5 * fc + 1)) (md_len 17) = true := by rw [n_in (by omega), ml17]; omega
  have i2 : md_in (Int32.ofNat (5 * fc + 2)) (md_len 17) = true := by rw [n_in (by omega), ml17]; omega
  have i3 : md_in (Int32.ofNat (5 * fc + 3)) (md_len 17) = true := by rw [n_in (by omega), ml17]; omega
  have i4 : md_in (Int32.ofNat (5 * fc + 4)) (md_len 17) = true := by rw [n_in (by omega), ml17]; omega
  rw [fe_Md_add_3, ks_g32, if_pos (n_leT (Nat.le_refl _) (by omega)), ks_g7, h7]
  by_cases e : fc ≤ most
  · rw [if_pos (n_leT e (by omega)), if_pos e]
    simp only [ks_v17, ks_pr, ks_g32, ks_h17, n_5, n_1, n_2, n_3, n_4, n_mul, n_add, i0, i1, i2, i3, i4, if_true, n_nat (show 5 * fc < 2147483648 by omega), n_nat (show 5 * fc + 1 < 2147483648 by omega), n_nat (show 5 * fc + 2 < 2147483648 by omega), n_nat (show 5 * fc + 3 < 2147483648 by omega), n_nat (show 5 * fc + 4 < 2147483648 by omega), ks_u32]
    rfl
  · rw [if_neg (n_leF (by omega) (by omega)), if_neg e]
theorem m_add (hN : 60 ≤ N) {most : Nat} (h7 : S.1 7 = Int32.ofNat most) (hmo : most ≤ 30) {w : j_W} (hrp : m_rp a17 fc most w) (r : j_R) : ∃ fc' a17', fn_Md_add N r.1 r.2.1 r.2.2.1 r.2.2.2.1 r.2.2.2.2 (ks S fc od rn uf an ho fs al a17 a18 a19 a20 a21) = some (0, ks S fc' od rn uf an ho fs al a17' a18 a19 a20 a21) ∧ m_rp a17' fc' most (j_off most r w.1 w.2) := by
  obtain ⟨p1, p2, p3, p4⟩ := hrp
  have hfc : fc ≤ 31 := by
    rw [p3]
    split <;> omega
  have go : ∀ (n d i : Nat), i + n = fc → n < d → (∀ j, j < i → w.1[j]? ≠ some r) → ∃ fc' a17', fn_Md_add_3 N d r.1 r.2.1 r.2.2.1 r.2.2.2.1 r.2.2.2.2 (Int32.ofNat i) (ks S fc od rn uf an ho fs al a17 a18 a19 a20 a21) = some (0, ks S fc' od rn uf an ho fs al a17' a18 a19 a20 a21) ∧ m_rp a17' fc' most (j_off most r w.1 w.2) := by
    intro n
    induction n with
    | zero =>
      intro d i hi hd hno
      obtain ⟨d, rfl⟩ : ∃ d', d = d' + 1 := ⟨d - 1, by omega⟩
      rw [Nat.add_zero] at hi
      rw [hi] at hno ⊢
      rw [m_ad3e h7 hmo hfc r]
      have hle : w.1.length ≤ fc := by
        rw [p3]; split <;> omega
      have hni : r ∉ w.1 := fun q => by
        obtain ⟨j, hj⟩ := List.mem_iff_getElem?.mp q
        have hlt : j < w.1.length := by
          by_cases e : j < w.1.length
          · exact e
          · rw [List.getElem?_eq_none (by omega)] at hj; cases hj
        exact hno j (by omega) hj
      cases hv : w.2 with
      | true =>
        rw [hv] at p3
        have h3 : fc = most + 1 := p3
        have hlen := p2 hv
        rw [if_neg (by omega), j_off_ov (by omega)]
        exact ⟨fc, a17, rfl, p1, fun _ => hlen, h3, p4⟩
      | false =>
        rw [hv] at p3
        have h3 : fc = w.1.length := p3
        rw [if_pos (by omega)]
        refine ⟨fc + 1, u5 a17 fc r, rfl, ?_⟩
        unfold j_off
        rw [if_neg hni]
        by_cases e : most ≤ w.1.length
        · rw [if_pos e]
          refine ⟨p1, fun _ => by show w.1.length = most; omega, ?_, ?_⟩
          · show fc + 1 = most + 1; omega
          · intro i q hq
            replace hq : w.1[i]? = some q := hq
            have hlt : i < w.1.length := by
              by_cases e : i < w.1.length
              · exact e
              · rw [List.getElem?_eq_none (by omega)] at hq; cases hq
            rw [u5_ne (by omega)]
            exact p4 i q hq
        · rw [if_neg e]
          refine ⟨?_, fun q => absurd (show false = true from q) (by decide), ?_, ?_⟩
          · show (w.1 ++ [r]).length ≤ most
            rw [List.length_append]
            show w.1.length + 1 ≤ most
            omega
          · show fc + 1 = (w.1 ++ [r]).length
            rw [List.length_append, h3]
            rfl
          · intro i q hq
            replace hq : (w.1 ++ [r])[i]? = some q := hq
            by_cases e2 : i < w.1.length
            · rw [List.getElem?_append_left e2] at hq
              rw [u5_ne (by omega)]
              exact p4 i q hq
            · rw [List.getElem?_append_right (by omega)] at hq
              by_cases e3 : i = w.1.length
              · rw [e3, Nat.sub_self] at hq
                rw [e3, ← h3, u5_at]
                exact Option.some.inj hq
              · rw [List.getElem?_eq_none (by show 1 ≤ _; omega)] at hq
                cases hq
    | succ n ih =>
      intro d i hi hd hno
      obtain ⟨d, rfl⟩ : ∃ d', d = d' + 1 := ⟨d - 1, by omega⟩
      rw [m_ad3s (by omega) hfc r]
      by_cases e : r_row a17 i = r
      · rw [if_pos e]
        refine ⟨fc, a17, rfl, ?_⟩
        by_cases e2 : i < w.1.length
        · have : r ∈ w.1 := by
            have h := p4 i _ (List.getElem?_eq_getElem e2)
            rw [← e, h]
            exact List.getElem_mem e2
          unfold j_off
          rw [if_pos this]
          exact ⟨p1, p2, p3, p4⟩
        · cases hv : w.2 with
          | true =>
            have hlen := p2 hv
            rw [j_off_ov (by omega)]
            refine ⟨p1, fun _ => hlen, ?_, p4⟩
            rw [hv] at p3
            exact p3
          | false =>
            rw [hv] at p3
            have h3 : fc = w.1.length := p3
            omega
      · rw [if_neg e]
        refine ih d (i + 1) (by omega) (by omega) ?_
        intro j hj hq
        by_cases e2 : j = i
        · rw [e2] at hq
          exact e (p4 i r hq)
        · exact hno j (by omega) hq
  unfold fn_Md_add fn_Md_add_0
  rw [n_0]
  exact go fc N 0 (by omega) (by omega) (fun j hj => absurd hj (by omega))
end MAD
