/-! ### authorize: the reference's side, its parts -/
theorem ks_self {S : MS} {fc od rn : Nat} (h32 : S.1 32 = Int32.ofNat fc) (h33 : S.1 33 = Int32.ofNat od) (h36 : S.1 36 = Int32.ofNat rn) : S = ks S fc od rn (S.1 37) (S.1 42) (S.1 43) (S.1 44) (S.1 45) (S.2 17) (S.2 18) (S.2 19) (S.2 20) (S.2 21) := by
  refine Prod.ext (funext fun k => ?_) (funext fun j => ?_)
  · show S.1 k = (if k = 32 then Int32.ofNat fc else if k = 33 then Int32.ofNat od else if k = 36 then Int32.ofNat rn else if k = 37 then S.1 37 else if k = 42 then S.1 42 else if k = 43 then S.1 43 else if k = 44 then S.1 44 else if k = 45 then S.1 45 else S.1 k)
    by_cases e1 : k = 32
    · rw [if_pos e1, e1]; exact h32
    rw [if_neg e1]
    by_cases e2 : k = 33
    · rw [if_pos e2, e2]; exact h33
    rw [if_neg e2]
    by_cases e3 : k = 36
    · rw [if_pos e3, e3]; exact h36
    rw [if_neg e3]
    by_cases e4 : k = 37
    · rw [if_pos e4, e4]
    rw [if_neg e4]
    by_cases e5 : k = 42
    · rw [if_pos e5, e5]
    rw [if_neg e5]
    by_cases e6 : k = 43
    · rw [if_pos e6, e6]
    rw [if_neg e6]
    by_cases e7 : k = 44
    · rw [if_pos e7, e7]
    rw [if_neg e7]
    by_cases e8 : k = 45
    · rw [if_pos e8, e8]
    rw [if_neg e8]
  · show S.2 j = (if j = 17 then S.2 17 else if j = 18 then S.2 18 else if j = 19 then S.2 19 else if j = 20 then S.2 20 else if j = 21 then S.2 21 else S.2 j)
    by_cases e1 : j = 17
    · rw [if_pos e1, e1]
    rw [if_neg e1]
    by_cases e2 : j = 18
    · rw [if_pos e2, e2]
    rw [if_neg e2]
    by_cases e3 : j = 19
    · rw [if_pos e3, e3]
    rw [if_neg e3]
    by_cases e4 : j = 20
    · rw [if_pos e4, e4]
    rw [if_neg e4]
    by_cases e5 : j = 21
    · rw [if_pos e5, e5]
    rw [if_neg e5]
/-- what loading leaves as it was -/
def mk_eq (S S' : MS) : Prop := (∀ k, k ≤ 9 ∨ 32 ≤ k → S'.1 k = S.1 k) ∧ ∀ j, j ≤ 8 ∨ 17 ≤ j → S'.2 j = S.2 j
theorem mk_refl (S : MS) : mk_eq S S := ⟨fun _ _ => rfl, fun _ _ => rfl⟩
theorem mk_tr {S S1 S2 : MS} (a : mk_eq S S1) (b : mk_eq S1 S2) : mk_eq S S2 := ⟨fun k hk => (b.1 k hk).trans (a.1 k hk), fun j hj => (b.2 j hj).trans (a.2 j hj)⟩
section MAU
variable {N : Nat} {S : MS} {Q : List (Nat × g_Cl)}
theorem m_link (N : Nat) {t k j : Nat} (ht : t ≤ 16) (hk : k ≤ 3) (hj : j ≤ 4) : fn_Md_link N (Int32.ofNat t) (Int32.ofNat k) (Int32.ofNat j) S = some (S.2 5 (20 * t + 5 * k + j), S) := by
  unfold fn_Md_link fn_Md_link_0
  rw [n_c20, n_mul, n_5, n_mul, n_add, n_add, if_pos (show md_in (Int32.ofNat (20 * t + 5 * k + j)) (md_len 5) = true by rw [n_in (by omega), mL5]; omega), n_nat (by omega)]
theorem m_ri5 {t : Nat} (ht : t ≤ 16) {T : w_T} (hT : mT1 (S.2 4) (S.2 5) (S.2 6) (S.2 7) (S.2 8) t T) (h4 : T.1.length ≤ 4) : ∀ (xs : List w_K) (d i : Nat) (k : Int32), i + xs.length = T.1.length → (∀ j, xs[j]? = T.1[i + j]?) → xs.length < d → fn_Md_right_5 N d (Int32.ofNat t) k (Int32.ofNat i) S = some (j_b (w_go T xs k), S)
  | xs, 0, i, k, hi, hx, hd => absurd hd (by omega)
  | [], d + 1, i, k, hi, hx, hd => by
    have hi' : i = T.1.length := hi
    have i4 : md_in (Int32.ofNat t) (md_len 4) = true := by rw [n_in (by omega), mL4]; omega
    have i6 : md_in (Int32.ofNat t) (md_len 6) = true := by rw [n_in (by omega), mL6]; omega
    have i7 : md_in (Int32.ofNat t) (md_len 7) = true := by rw [n_in (by omega), mL7]; omega
    have i8 : md_in (Int32.ofNat t) (md_len 8) = true := by rw [n_in (by omega), mL8]; omega
    have nt : (Int32.ofNat t).toNatClampNeg = t := n_nat (by omega)
    obtain ⟨t4, t6, t7, t8, -⟩ := hT
    rw [fe_Md_right_5, if_pos i4, nt, t4, if_pos (n_leT (by omega) (by omega)), if_pos i7, t7]
    unfold fn_Md_right_117 fn_Md_right_121 fn_Md_right_122 w_go
    by_cases e : T.2.2.1 = k
    · rw [if_pos e, if_pos i6, t6, decide_eq_true e]
      cases hs : T.2.1 with
      | false =>
        rw [if_pos (show j_b false = 0 from n_e00), if_pos n_b1]
        rfl
      | true =>
        rw [if_neg (show ¬ j_b true = 0 from n_ne10), if_pos i8, if_pos i4, t8]
        by_cases e2 : T.2.2.2 = Int32.ofNat T.1.length
        · rw [if_pos e2, if_pos n_b1, decide_eq_true e2]
          rfl
        · rw [if_neg e2, if_pos n_b0, decide_eq_false e2]
          rfl
    · rw [if_neg e, if_pos n_b0, decide_eq_false e]
      rfl
  | y :: xs, d + 1, i, k, hi, hx, hd => by
    simp only [List.length_cons] at hi hd
    have hy : T.1[i]? = some y := by have := hx 0; rw [Nat.add_zero] at this; rw [← this]; rfl
    have hx' : ∀ j, xs[j]? = T.1[i + 1 + j]? := fun j => by
      have := hx (j + 1)
      rw [show i + 1 + j = i + (j + 1) by omega, ← this]
      rfl
    have i4 : md_in (Int32.ofNat t) (md_len 4) = true := by rw [n_in (by omega), mL4]; omega
    have nt : (Int32.ofNat t).toNatClampNeg = t := n_nat (by omega)
    obtain ⟨l0, l1, l2, l3, l4⟩ := hT.2.2.2.2 i y hy
    have e0 : fn_Md_link N (Int32.ofNat t) (Int32.ofNat i) (Int32.ofInt 0) S = some (y.1, S) := by rw [n_0, m_link N ht (by omega) (by omega), Nat.add_zero, l0]
    have e1 : fn_Md_link N (Int32.ofNat t) (Int32.ofNat i) (Int32.ofInt 1) S = some (y.2.1, S) := by rw [n_1, m_link N ht (by omega) (by omega), l1]
    have e2 : fn_Md_link N (Int32.ofNat t) (Int32.ofNat i) (Int32.ofInt 2) S = some (y.2.2.1, S) := by rw [n_2, m_link N ht (by omega) (by omega), l2]
    have e3 : fn_Md_link N (Int32.ofNat t) (Int32.ofNat i) (Int32.ofInt 3) S = some (y.2.2.2.1, S) := by rw [n_3, m_link N ht (by omega) (by omega), l3]
    have e4 : fn_Md_link N (Int32.ofNat t) (Int32.ofNat i) (Int32.ofInt 4) S = some (y.2.2.2.2, S) := by rw [n_4, m_link N ht (by omega) (by omega), l4]
    have h66 : fn_Md_right_66 N S = some (j_b false, S) := rfl
    rw [fe_Md_right_5, if_pos i4, nt, hT.1, if_neg (n_leF (by omega) (by omega)), e2, Option.bind_some]
    dsimp only
    unfold w_go
    by_cases c1 : y.2.2.1 = k
    · rw [if_pos c1, e3, Option.bind_some]
      dsimp only
      rw [e0, Option.bind_some]
      dsimp only
      by_cases c2 : y.2.2.2.1 = y.1
      · rw [if_pos c2, e4, Option.bind_some]
        dsimp only
        rw [e1, Option.bind_some]
        dsimp only
        by_cases c3 : y.2.2.2.2 = y.2.1
        · rw [if_pos c3, if_pos ⟨c1, c2, c3⟩, e1, Option.bind_some]
          dsimp only
          rw [n_1, n_add]
          exact m_ri5 ht hT h4 xs d (i + 1) y.2.1 (by omega) hx' (by omega)
        · rw [if_neg c3, if_neg (fun z => c3 z.2.2)]
          exact h66
      · rw [if_neg c2, if_neg (fun z => c2 z.2.1)]
        exact h66
    · rw [if_neg c1, if_neg (fun z => c1 z.1)]
      exact h66
theorem m_right (hN : 60 ≤ N) {t : Nat} (ht : t ≤ 16) {T : w_T} (hT : mT1 (S.2 4) (S.2 5) (S.2 6) (S.2 7) (S.2 8) t T) (h4 : T.1.length ≤ 4) (x : Int32) : fn_Md_right N (Int32.ofNat t) x S = some (j_b (w_ok T x), S) := by
  unfold fn_Md_right fn_Md_right_0 w_ok
  rw [n_0]
  exact m_ri5 ht hT h4 T.1 N 0 x (by omega) (fun j => by rw [Nat.zero_add]) (by omega)
/-- one clause is loaded -/
theorem m_load (hN : 60 ≤ N) (hQ : q_rep S Q) (hl : Q.length < 30) {t p : Nat} {x : g_Cl} (ht : t ≤ 95) (hx : tx (S.2 1) (S.2 2) t x) (hxo : x_ok x) : ∃ S', fn_Md_load N (Int32.ofNat t) (Int32.ofNat p) S = some (0, S') ∧ q_rep S' (Q ++ [(p, x)]) ∧ mk_eq S S' := by
  obtain ⟨c, n, hn, h2, hc, hr⟩ := hx
  obtain ⟨q1, q2, q3⟩ := hQ
  have key := m_read (N := N) (S := S) (sl := Q.length) hN hn ht (by omega) h2 hc
  rw [hr] at key
  obtain ⟨S1, r1, r2, r3⟩ := key
  obtain ⟨f1, f2, f3, f4, f5⟩ := r3
  have f15 : S1.1 15 = Int32.ofNat Q.length := (f1 15 (by omega) (by omega) (by omega) (by omega) (by omega) (by omega) (by omega) (by omega)).trans q1
  have i9 : md_in (Int32.ofNat Q.length) (md_len 9) = true := by rw [n_in (by omega), ml9]; omega
  have i10 : md_in (Int32.ofNat Q.length) (md_len 10) = true := by rw [n_in (by omega), ml10]; omega
  have nq : (Int32.ofNat Q.length).toNatClampNeg = Q.length := n_nat (by omega)
  have z9 : upd (S1.2 9) Q.length (Int32.ofNat x.1) = S1.2 9 := by
    funext k
    by_cases e : k = Q.length
    · rw [e, upd_eq]; exact r2.1.symm
    · rw [upd_ne e]
  have zz : va_up S1.2 9 (S1.2 9) = S1.2 := by
    funext j
    show (if j = 9 then S1.2 9 else S1.2 j) = S1.2 j
    by_cases e : j = 9
    · rw [if_pos e, e]
    · rw [if_neg e]
  refine ⟨(va_up S1.1 15 (Int32.ofNat (Q.length + 1)), va_up S1.2 10 (upd (S1.2 10) Q.length (Int32.ofNat p))), ?_, ⟨?_, ?_, ?_⟩, ?_, ?_⟩
  · unfold fn_Md_load fn_Md_load_0
    rw [q1, r1, Option.bind_some]
    dsimp only
    rw [if_pos i9, nq, z9, zz, f15, if_pos i10, nq, n_1, n_add]
  · rw [List.length_append]; rfl
  · rw [List.length_append]; show Q.length + 1 ≤ 30; omega
  · intro k p' x' hk
    have a9 : ∀ j, j ≠ 10 → (va_up S1.2 10 (upd (S1.2 10) Q.length (Int32.ofNat p))) j = S1.2 j := fun j hj => if_neg hj
    have a10 : (va_up S1.2 10 (upd (S1.2 10) Q.length (Int32.ofNat p))) 10 = upd (S1.2 10) Q.length (Int32.ofNat p) := if_pos rfl
    have mcr : ∀ {y : g_Cl}, mc_rep S1 k y → mc_rep (va_up S1.1 15 (Int32.ofNat (Q.length + 1)), va_up S1.2 10 (upd (S1.2 10) Q.length (Int32.ofNat p))) k y := fun {y} hy => by
      unfold mc_rep at hy ⊢
      dsimp only
      rw [a9 9 (by omega), a9 11 (by omega), a9 12 (by omega), a9 13 (by omega), a9 14 (by omega), a9 15 (by omega)]
      exact hy
    by_cases e : k < Q.length
    · rw [List.getElem?_append_left e] at hk
      obtain ⟨u1, u2, u3⟩ := q3 k p' x' hk
      refine ⟨?_, mcr ?_, u3⟩
      · show (va_up S1.2 10 (upd (S1.2 10) Q.length (Int32.ofNat p))) 10 k = _
        rw [a10, upd_ne (by omega), f2 10 (by omega) (by omega) (by omega) (by omega) (by omega) (by omega) (by omega)]
        exact u1
      · obtain ⟨v1, v2, v3, v4, v5, v6, v7⟩ := u2
        obtain ⟨w1, w2, w3, w4⟩ := f3 k (by omega)
        have hxl := u3.1.1
        have hxe := u3.1.2.2.2.1
        have am : ∀ q y, (16 * k ≤ q ∧ q + 4 ≤ 16 * k + 16) → am_rep (S.2 13) q y → am_rep (S1.2 13) q y := fun q y hq hy => by
          obtain ⟨g1, g2, g3, g4⟩ := hy
          exact ⟨(f4 q (by omega)).trans g1, (f4 (q + 1) (by omega)).trans g2, fun z => (f4 (q + 2) (by omega)).trans (g3 z), fun z => (f4 (q + 3) (by omega)).trans (g4 z)⟩
        refine ⟨w1.trans v1, w2.trans v2, w3.trans v3, fun y hy => am _ y (by omega) (v4 y hy), fun i y hy => ?_, w4.trans v6, fun i y hy => ?_⟩
        · have hil := (List.getElem?_eq_some_iff.mp hy).1
          exact am _ y (by omega) (v5 i y hy)
        · have hil := (List.getElem?_eq_some_iff.mp hy).1
          exact (f5 (48 * k + i) (by omega)).trans (v7 i y hy)
    · have hkl := (List.getElem?_eq_some_iff.mp hk).1
      rw [List.length_append] at hkl
      have hkl : k < Q.length + 1 := hkl
      have ek : k = Q.length := by omega
      subst ek
      rw [List.getElem?_append_right (Nat.le_refl _), Nat.sub_self] at hk
      cases hk
      refine ⟨?_, mcr r2, hxo⟩
      show (va_up S1.2 10 (upd (S1.2 10) Q.length (Int32.ofNat p))) 10 Q.length = _
      rw [a10, upd_eq]
  · intro k hk
    show (if k = 15 then _ else S1.1 k) = S.1 k
    rw [if_neg (by omega)]
    exact f1 k (by omega) (by omega) (by omega) (by omega) (by omega) (by omega) (by omega) (by omega)
  · intro j hj
    show (if j = 10 then _ else S1.2 j) = S.2 j
    rw [if_neg (by omega)]
    exact f2 j (by omega) (by omega) (by omega) (by omega) (by omega) (by omega) (by omega)
/-- the facts among the clauses are laid -/
theorem m_ld94 (hN : 60 ≤ N) {most : Nat} (hmo : most ≤ 30) (h7 : S.1 7 = Int32.ofNat most) (hQ : q_rep S Q) {od rn : Nat} {uf an ho fs al : Int32} {a18 a19 a20 a21 : Nat → Int32} : ∀ (n d c : Nat) (w : j_W) (fc : Nat) (a17 : Nat → Int32), c + n = Q.length → n < d → m_rp a17 fc most w →
    ∃ fc' a17', fn_Md_loadAll_94 N d (Int32.ofNat c) (ks S fc od rn uf an ho fs al a17 a18 a19 a20 a21) = some (0, ks S fc' od rn uf an ho fs al a17' a18 a19 a20 a21) ∧ m_rp a17' fc' most ((Q.drop c).foldl (fun w q => j_lay1 most q.1 w q.2) w)
  | n, 0, c, w, fc, a17, hc, hd, hrp => absurd hd (by omega)
  | 0, d + 1, c, w, fc, a17, hc, hd, hrp => by
    have hq30 := hQ.2.1
    refine ⟨fc, a17, ?_, ?_⟩
    · rw [fe_Md_loadAll_94, ks_g15, hQ.1, if_pos (n_leT (by omega) (by omega))]
    · rw [List.drop_of_length_le (by omega)]
      exact hrp
  | n + 1, d + 1, c, w, fc, a17, hc, hd, hrp => by
    have hq30 := hQ.2.1
    obtain ⟨⟨p, x⟩, hpx⟩ : ∃ q, Q[c]? = some q := ⟨_, List.getElem?_eq_getElem (by omega)⟩
    obtain ⟨h10, hx, hxo⟩ := hQ.2.2 c p x hpx
    have hdr : Q.drop c = (p, x) :: Q.drop (c + 1) := by
      obtain ⟨hc', e⟩ := List.getElem?_eq_some_iff.mp hpx
      rw [← e, List.getElem_cons_drop]
    have i9 : md_in (Int32.ofNat c) (md_len 9) = true := by rw [n_in (by omega), ml9]; omega
    have i10 : md_in (Int32.ofNat c) (md_len 10) = true := by rw [n_in (by omega), ml10]; omega
    have i0 : md_in (Int32.ofNat (16 * c)) (md_len 13) = true := by rw [n_in (by omega), ml13]; omega
    have i1 : md_in (Int32.ofNat (16 * c + 1)) (md_len 13) = true := by rw [n_in (by omega), ml13]; omega
    have i2 : md_in (Int32.ofNat (16 * c + 2)) (md_len 13) = true := by rw [n_in (by omega), ml13]; omega
    have i3 : md_in (Int32.ofNat (16 * c + 3)) (md_len 13) = true := by rw [n_in (by omega), ml13]; omega
    have nc : (Int32.ofNat c).toNatClampNeg = c := n_nat (by omega)
    have hk5 := hxo.2.1
    rw [hdr, List.foldl_cons]
    by_cases e : x.1 = 0
    · obtain ⟨y, hy⟩ := hxo.2.2.1 (by omega)
      have hl1 : ∃ y', x.1 = 0 ∧ x.2.2.1 = some y' ∧ (y'.2.2.1 < 1048576 ∧ y'.2.2.2 < 1048576) ∧ j_lay1 most p w x = j_off most (j_hr y' (j_own p, fun _ => 0)) w.1 w.2 := by
        rcases j_lay1_hr (room := most) (p := p) (w := w) hxo with e' | e'
        · obtain ⟨y', -, hy', hlt, -⟩ := (j_lay1_hr (room := 0) (p := p) (w := ([], false)) hxo).resolve_left (fun q => by
            unfold j_lay1 j_off at q
            rw [if_pos e, hy] at q
            simp at q)
          refine ⟨y', e, hy', hlt, ?_⟩
          unfold j_lay1 j_hr j_val
          rw [if_pos e, hy', if_pos hlt.1, if_pos hlt.2]
        · exact e'
      obtain ⟨y', -, hy', ⟨a1, a2⟩, hl⟩ := hl1
      rw [hy] at hy'
      cases hy'
      obtain ⟨t1, t2, -, -⟩ := hxo.1.2.2.1 y hy
      obtain ⟨⟨z1, z2, z3⟩, hy26⟩ := hxo.2.2.2.2.2.1 y hy
      obtain ⟨g1, g2, g3, g4⟩ := hx.2.2.2.1 y hy
      have hv : j_hr y (j_own p, fun _ => (0 : Int32)) = j_hr y (j_own p, a20) := by
        unfold j_hr j_val
        rw [if_pos a1, if_pos a2, if_pos a1, if_pos a2]
      obtain ⟨fc1, b17, k1, k2⟩ := m_add (N := N) (S := S) (od := od) (rn := rn) (uf := uf) (an := an) (ho := ho) (fs := fs) (al := al) (a18 := a18) (a19 := a19) (a20 := a20) (a21 := a21) hN h7 hmo hrp (j_hr y (j_own p, a20))
      rw [← hv] at k2
      obtain ⟨fc', a17', y1, y2⟩ := m_ld94 hN hmo h7 hQ n d (c + 1) (j_lay1 most p w x) fc1 b17 (by omega) (by omega) (by rw [hl]; exact k2)
      refine ⟨fc', a17', ?_, y2⟩
      rw [← y1]
      have step : fn_Md_loadAll_94 N (d + 1) (Int32.ofNat c) (ks S fc od rn uf an ho fs al a17 a18 a19 a20 a21) = (fn_Md_add N (j_hr y (j_own p, a20)).1 (j_hr y (j_own p, a20)).2.1 (j_hr y (j_own p, a20)).2.2.1 (j_hr y (j_own p, a20)).2.2.2.1 (j_hr y (j_own p, a20)).2.2.2.2 (ks S fc od rn uf an ho fs al a17 a18 a19 a20 a21)).bind fun r1 => fn_Md_loadAll_94 N d (Int32.ofNat (c + 1)) r1.2 := by
        have hv0 : ∀ v : Nat → Int32, j_val v 0 = Int32.ofInt 0 := fun v => rfl
        have h186 : ∀ (k94 : Int32 → MS → Option (Int32 × MS)) (s1 s2 s3 s4 : Int32), fn_Md_loadAll_186 N k94 (Int32.ofNat c) s1 s2 s3 s4 (ks S fc od rn uf an ho fs al a17 a18 a19 a20 a21) = (fn_Md_add N s1 s2 s3 s4 (j_own p) (ks S fc od rn uf an ho fs al a17 a18 a19 a20 a21)).bind fun r1 => k94 (Int32.ofNat (c + 1)) r1.2 := by
          intro k94 s1 s2 s3 s4
          unfold fn_Md_loadAll_186 fn_Md_loadAll_197
          rw [if_pos i10, ks_h10, nc, h10, n_1, n_add]
          rfl
        have h158 : ∀ (k94 : Int32 → MS → Option (Int32 × MS)) (s1 s2 s3 : Int32), fn_Md_loadAll_158 N k94 (Int32.ofNat c) (Int32.ofNat (16 * c)) s1 s2 s3 (ks S fc od rn uf an ho fs al a17 a18 a19 a20 a21) = (fn_Md_add N s1 s2 s3 (j_val a20 y.2.2.2) (j_own p) (ks S fc od rn uf an ho fs al a17 a18 a19 a20 a21)).bind fun r1 => k94 (Int32.ofNat (c + 1)) r1.2 := by
          intro k94 s1 s2 s3
          unfold fn_Md_loadAll_158
          rw [n_1, n_3, n_add, n_add, if_pos i1, ks_h13, n_nat (show 16 * c + 1 < 2147483648 by omega), g2]
          by_cases s1' : y.2.1 ≤ 1
          · rw [if_pos (n_leT s1' (by omega)), h186, z2 s1', hv0]
          · rw [if_neg (n_leF (by omega) (by omega)), if_pos i3, n_nat (show 16 * c + 3 < 2147483648 by omega), g4 (by omega), m_worth t2, Option.bind_some]
            exact h186 _ _ _ _ _
        rw [fe_Md_loadAll_94, ks_g15, hQ.1, if_neg (n_leF (by omega) (by omega)), if_pos i9, ks_h9, nc, hx.1, e, if_pos (show Int32.ofNat 0 = 0 from rfl), n_c16, n_mul, n_1, n_2, n_add, n_add, if_pos i0, if_pos i1, if_pos i1, if_pos i2, ks_h13, n_nat (show 16 * c < 2147483648 by omega), n_nat (show 16 * c + 1 < 2147483648 by omega), n_nat (show 16 * c + 2 < 2147483648 by omega), g1, g2]
        by_cases s0 : y.2.1 = 0
        · rw [if_pos (show Int32.ofNat y.2.1 ≤ 0 from n_leT (b := 0) (by omega) (by omega)), h158]
          unfold j_hr
          rw [z3 s0, hv0]
        · rw [if_neg (show ¬ Int32.ofNat y.2.1 ≤ 0 from n_leF (b := 0) (by omega) (by omega)), g3 (by omega), m_worth t1, Option.bind_some]
          exact h158 _ _ _ _
      rw [step, k1, Option.bind_some]
    · obtain ⟨fc', a17', y1, y2⟩ := m_ld94 hN hmo h7 hQ n d (c + 1) w fc a17 (by omega) (by omega) hrp
      have hl : j_lay1 most p w x = w := by unfold j_lay1; rw [if_neg e]
      refine ⟨fc', a17', ?_, by show m_rp a17' fc' most ((Q.drop (c + 1)).foldl _ (j_lay1 most p w x)); rw [hl]; exact y2⟩
      rw [fe_Md_loadAll_94, ks_g15, hQ.1, if_neg (n_leF (by omega) (by omega)), if_pos i9, ks_h9, nc, hx.1, if_neg (n_ne0 (by omega) (by omega))]
      unfold fn_Md_loadAll_197
      rw [n_1, n_add]
      exact y1
end MAU
