/-! ### authorize: the reference's side -/
def l_Q (T : w_T) (Bs : List (List g_Cl)) : Nat → Nat → List (Nat × g_Cl)
  | _, 0 => []
  | k, n + 1 => (w_pl T Bs k).map (fun x => (k, x)) ++ l_Q T Bs (k + 1) n
theorem l_Q_end (T : w_T) (Bs : List (List g_Cl)) : ∀ (n k : Nat), T.1.length ≤ k → l_Q T Bs k n = []
  | 0, k, _ => rfl
  | n + 1, k, h => by
    have e : w_pl T Bs k = [] := by
      unfold w_pl
      rw [List.getElem?_eq_none h]
    unfold l_Q
    rw [e, l_Q_end T Bs n (k + 1) (by omega)]
    rfl
theorem l_Q_split (T : w_T) (Bs : List (List g_Cl)) : ∀ (n m k : Nat), l_Q T Bs k (n + m) = l_Q T Bs k n ++ l_Q T Bs (k + n) m
  | 0, m, k => by rw [Nat.zero_add]; rfl
  | n + 1, m, k => by
    rw [show n + 1 + m = (n + m) + 1 by omega]
    show (w_pl T Bs k).map (fun x => (k, x)) ++ l_Q T Bs (k + 1) (n + m) = ((w_pl T Bs k).map (fun x => (k, x)) ++ l_Q T Bs (k + 1) n) ++ l_Q T Bs (k + (n + 1)) m
    rw [l_Q_split T Bs n m (k + 1), List.append_assoc, show k + 1 + n = k + (n + 1) by omega]
theorem l_Q_all {T : w_T} {Bs : List (List g_Cl)} {D : List g_Cl} (h4 : T.1.length ≤ 4) : l_Q T Bs 0 T.1.length ++ D.map (fun x => (4, x)) = j_Q 0 (w_Ps T Bs D) := by
  have e : l_Q T Bs 0 4 = l_Q T Bs 0 T.1.length := by
    obtain ⟨m, hm⟩ : ∃ m, 4 = T.1.length + m := ⟨4 - T.1.length, by omega⟩
    rw [hm, l_Q_split, l_Q_end T Bs m (0 + T.1.length) (by omega), List.append_nil]
  rw [← e]
  simp only [l_Q, j_Q, w_Ps, List.append_assoc, List.append_nil, List.nil_append]
section MA2
variable {N : Nat} {S S0 : MS} {lc : Nat → Nat} {ln : Nat} {M : List g_Cl} {Bs : List (List g_Cl)} {D : List g_Cl} {Ts : List w_T} {K most more : Nat} {re : Int32} {rd : Nat} {un : Int32} {G : List j_R}
theorem m_la28 (hN : 60 ≤ N) (h : mI S0 lc ln M Bs D Ts K most more re rd un G) {k7 : Int32 → Int32 → MS → Option (Int32 × MS)} {bk p : Nat} {t : Int32} {L : List g_Cl} (hb1 : 1 ≤ bk) (hb2 : bk ≤ 16) (hb : Bs[bk - 1]? = some L) (hL5 : L.length ≤ 5) (hx : ∀ x, x ∈ L → x_ok x) : ∀ (xs : List g_Cl) (d i : Nat) (S : MS) (Q : List (Nat × g_Cl)), i + xs.length = L.length → (∀ j, xs[j]? = L[i + j]?) → xs.length < d → Q.length + xs.length ≤ 30 → q_rep S Q → mk_eq S0 S →
    ∃ S', fn_Md_loadAll_28 N k7 d t (Int32.ofNat p) (Int32.ofNat bk) (Int32.ofNat i) S = k7 t (Int32.ofNat (p + 1)) S' ∧ q_rep S' (Q ++ xs.map (fun x => (p, x))) ∧ mk_eq S0 S'
  | xs, 0, i, S, Q, hi, hq, hd, hl, hQ, hS => absurd hd (by omega)
  | xs, d + 1, i, S, Q, hi, hq, hd, hl, hQ, hS => by
    have i3 : md_in (Int32.ofNat bk) (md_len 3) = true := by rw [n_in (by omega), mL3]; omega
    have nb : (Int32.ofNat bk).toNatClampNeg = bk := n_nat (by omega)
    obtain ⟨q1, q2⟩ := h.2.2.1.2.2.1 (bk - 1) L hb
    rw [show bk - 1 + 1 = bk by omega] at q1 q2
    have e3 : S.2 3 bk = Int32.ofNat L.length := by rw [hS.2 3 (by omega)]; exact q1
    match xs, hi, hq, hd, hl with
    | [], hi, hq, hd, hl =>
      have hi' : i = L.length := hi
      refine ⟨S, ?_, by rw [List.map_nil, List.append_nil]; exact hQ, hS⟩
      rw [fe_Md_loadAll_28, if_pos i3, nb, e3, if_pos (n_leT (by omega) (by omega)), n_1, n_add]
    | x :: xs, hi, hq, hd, hl =>
      simp only [List.length_cons] at hi hd hl
      have hxi : L[i]? = some x := by have := hq 0; rw [Nat.add_zero] at this; rw [← this]; rfl
      have hq' : ∀ j, xs[j]? = L[i + 1 + j]? := fun j => by
        have := hq (j + 1)
        rw [show i + 1 + j = i + (j + 1) by omega, ← this]
        rfl
      obtain ⟨S1, r1, r2, r3⟩ := m_load (N := N) (S := S) (p := p) (t := 5 * bk + i) hN hQ (by omega) (by omega) (by rw [hS.2 1 (by omega), hS.2 2 (by omega)]; exact q2 i x hxi) (hx x (List.mem_of_getElem? hxi))
      obtain ⟨S', z1, z2, z3⟩ := m_la28 hN h (k7 := k7) (t := t) hb1 hb2 hb hL5 hx xs d (i + 1) S1 (Q ++ [(p, x)]) (by omega) hq' (by omega) (by rw [List.length_append]; show Q.length + 1 + xs.length ≤ 30; omega) r2 (mk_tr hS r3)
      refine ⟨S', ?_, by rw [List.append_assoc] at z2; exact z2, z3⟩
      rw [fe_Md_loadAll_28, if_pos i3, nb, e3, if_neg (n_leF (by omega) (by omega)), n_5, n_mul, n_add, r1, Option.bind_some, n_1, n_add]
      exact z1
theorem m_la7 (hN : 60 ≤ N) (h : mI S0 lc ln M Bs D Ts K most more re rd un G) (ok : g_ok lc ln M Bs D Ts K most more) {t : Nat} {T : w_T} (hT : Ts[t]? = some T) : ∀ (ls : List w_K) (d k : Nat) (S : MS) (Q : List (Nat × g_Cl)), k + ls.length = T.1.length → (∀ j, ls[j]? = T.1[k + j]?) → ls.length < d → Q.length + 5 * ls.length ≤ 20 → q_rep S Q → mk_eq S0 S →
    ∃ S', fn_Md_loadAll_7 N d (Int32.ofNat t) (Int32.ofNat k) S = fn_Md_loadAll_64 N N (Int32.ofInt 0) S' ∧ q_rep S' (Q ++ l_Q T Bs k ls.length) ∧ mk_eq S0 S' ∧ (Q ++ l_Q T Bs k ls.length).length ≤ 20
  | ls, 0, k, S, Q, hi, hq, hd, hl, hQ, hS => absurd hd (by omega)
  | ls, d + 1, k, S, Q, hi, hq, hd, hl, hQ, hS => by
    have ht := (List.getElem?_eq_some_iff.mp hT).1
    have hT16 := ok.2.2.2.2.1.1
    have hB16 : Bs.length ≤ 16 := Nat.le_trans ok.2.2.1.1 hT16
    obtain ⟨⟨t1, t4⟩, tl⟩ := ok.2.2.2.2.1.2 T (List.mem_of_getElem? hT)
    have i4 : md_in (Int32.ofNat t) (md_len 4) = true := by rw [n_in (by omega), mL4]; omega
    have nt : (Int32.ofNat t).toNatClampNeg = t := n_nat (by omega)
    have m1 := h.2.2.2.1.1 t T hT
    have e4 : S.2 4 t = Int32.ofNat T.1.length := by rw [hS.2 4 (by omega)]; exact m1.1
    match ls, hi, hq, hd, hl with
    | [], hi, hq, hd, hl =>
      have hi' : k = T.1.length := hi
      refine ⟨S, ?_, by show q_rep S (Q ++ []); rw [List.append_nil]; exact hQ, hS, by show (Q ++ []).length ≤ 20; rw [List.append_nil]; simpa using hl⟩
      rw [fe_Md_loadAll_7, if_pos i4, nt, e4, if_pos (n_leT (by omega) (by omega))]
    | l :: ls, hi, hq, hd, hl =>
      simp only [List.length_cons] at hi hd hl
      have hli : T.1[k]? = some l := by have := hq 0; rw [Nat.add_zero] at this; rw [← this]; rfl
      have hq' : ∀ j, ls[j]? = T.1[k + 1 + j]? := fun j => by
        have := hq (j + 1)
        rw [show k + 1 + j = k + (j + 1) by omega, ← this]
        rfl
      obtain ⟨bk, b1, b2, b3⟩ := tl l (List.mem_of_getElem? hli)
      obtain ⟨L, hL⟩ : ∃ L, Bs[bk - 1]? = some L := ⟨_, List.getElem?_eq_getElem (by omega)⟩
      have hLo := ok.2.2.1.2 L (List.mem_of_getElem? hL)
      have epl : w_pl T Bs k = L := by
        unfold w_pl
        rw [hli]
        show Bs.getD (l.1.toNatClampNeg - 1) [] = L
        rw [b3, n_nat (by omega), List.getD_eq_getElem?_getD, hL]
        rfl
      have l0 := (m1.2.2.2.2 k l hli).1
      obtain ⟨S1, r1, r2, r3⟩ := m_la28 (N := N) hN h (k7 := fn_Md_loadAll_7 N d) (p := k) (t := Int32.ofNat t) b1 (by omega) hL hLo.1 (fun x hx => (hLo.2 x hx).1) L N 0 S Q (by omega) (fun j => by rw [Nat.zero_add]) (by omega) (by omega) hQ hS
      have hlen1 : (Q ++ L.map (fun x => (k, x))).length = Q.length + L.length := by rw [List.length_append, List.length_map]
      obtain ⟨S', z1, z2, z3, z4⟩ := m_la7 hN h ok hT ls d (k + 1) S1 (Q ++ L.map (fun x => (k, x))) (by omega) hq' (by omega) (by rw [hlen1]; omega) r2 r3
      refine ⟨S', ?_, ?_, z3, ?_⟩
      · rw [fe_Md_loadAll_7, if_pos i4, nt, e4, if_neg (n_leF (by omega) (by omega)), n_0, m_link N (by omega) (by omega) (by omega), Option.bind_some, Nat.add_zero]
        dsimp only
        rw [hS.2 5 (by omega), l0, b3, r1]
        exact z1
      · show q_rep S' (Q ++ ((w_pl T Bs k).map (fun x => (k, x)) ++ l_Q T Bs (k + 1) ls.length))
        rw [epl, ← List.append_assoc]
        exact z2
      · show (Q ++ ((w_pl T Bs k).map (fun x => (k, x)) ++ l_Q T Bs (k + 1) ls.length)).length ≤ 20
        rw [epl, ← List.append_assoc]
        exact z4
theorem m_la64 (hN : 60 ≤ N) (h : mI S0 lc ln M Bs D Ts K most more re rd un G) (ok : g_ok lc ln M Bs D Ts K most more) : ∀ (xs : List g_Cl) (d i : Nat) (S : MS) (Q : List (Nat × g_Cl)), i + xs.length = D.length → (∀ j, xs[j]? = D[i + j]?) → xs.length < d → Q.length + xs.length ≤ 30 → q_rep S Q → mk_eq S0 S →
    ∃ S', fn_Md_loadAll_64 N d (Int32.ofNat i) S = fn_Md_loadAll_94 N N (Int32.ofInt 0) (va_up S'.1 32 (Int32.ofInt 0), S'.2) ∧ q_rep S' (Q ++ xs.map (fun x => (4, x))) ∧ mk_eq S0 S'
  | xs, 0, i, S, Q, hi, hq, hd, hl, hQ, hS => absurd hd (by omega)
  | [], d + 1, i, S, Q, hi, hq, hd, hl, hQ, hS => by
    have hD10 := ok.2.2.2.1.1
    have hi' : i = D.length := hi
    refine ⟨S, ?_, by rw [List.map_nil, List.append_nil]; exact hQ, hS⟩
    rw [fe_Md_loadAll_64, hS.1 4 (by omega), h.1.1, if_pos (n_leT (by omega) (by omega))]
  | x :: xs, d + 1, i, S, Q, hi, hq, hd, hl, hQ, hS => by
    have hD10 := ok.2.2.2.1.1
    simp only [List.length_cons] at hi hd hl
    have hxi : D[i]? = some x := by have := hq 0; rw [Nat.add_zero] at this; rw [← this]; rfl
    have hq' : ∀ j, xs[j]? = D[i + 1 + j]? := fun j => by
      have := hq (j + 1)
      rw [show i + 1 + j = i + (j + 1) by omega, ← this]
      rfl
    obtain ⟨S1, r1, r2, r3⟩ := m_load (N := N) (S := S) (p := 4) (t := 85 + i) hN hQ (by omega) (by omega) (by rw [hS.2 1 (by omega), hS.2 2 (by omega)]; exact h.2.2.1.2.2.2 i x hxi) (ok.2.2.2.1.2 x (List.mem_of_getElem? hxi))
    obtain ⟨S', z1, z2, z3⟩ := m_la64 hN h ok xs d (i + 1) S1 (Q ++ [(4, x)]) (by omega) hq' (by omega) (by rw [List.length_append]; show Q.length + 1 + xs.length ≤ 30; omega) r2 (mk_tr hS r3)
    refine ⟨S', ?_, by rw [List.append_assoc] at z2; exact z2, z3⟩
    rw [fe_Md_loadAll_64, hS.1 4 (by omega), h.1.1, if_neg (n_leF (by omega) (by omega)), n_c85, n_add, n_4, r1, Option.bind_some, n_1, n_add]
    exact z1
theorem m_loadAll (hN : 60 ≤ N) (h : mI S0 lc ln M Bs D Ts K most more re 0 (Int32.ofInt 0) []) (ok : g_ok lc ln M Bs D Ts K most more) {t : Nat} {T : w_T} (hT : Ts[t]? = some T) :
    ∃ (S2 : MS) (fc od : Nat) (an ho fs al : Int32) (a17 a18 a19 a20 a21 : Nat → Int32), fn_Md_loadAll N (Int32.ofNat t) S0 = some (0, ks S2 fc od 0 (Int32.ofInt 0) an ho fs al a17 a18 a19 a20 a21) ∧ q_rep S2 (j_Q 0 (w_Ps T Bs D)) ∧ mk_eq S0 S2 ∧ m_rp a17 fc most (s_w0 (w_Ps T Bs D) most) := by
  obtain ⟨⟨t1, t4⟩, tl⟩ := ok.2.2.2.2.1.2 T (List.mem_of_getElem? hT)
  have hD10 := ok.2.2.2.1.1
  have hm2 := ok.2.2.2.2.2.1.2
  have hs1 : mk_eq S0 (va_up S0.1 15 (Int32.ofInt 0), S0.2) := ⟨fun k hk => if_neg (by omega), fun j _ => rfl⟩
  have hq1 : q_rep (va_up S0.1 15 (Int32.ofInt 0), S0.2) [] := ⟨rfl, Nat.zero_le _, fun c p x hc => by cases hc⟩
  obtain ⟨S3, a1, a2, a3, a4⟩ := m_la7 (N := N) hN h ok hT T.1 N 0 (va_up S0.1 15 (Int32.ofInt 0), S0.2) [] (by omega) (fun j => by rw [Nat.zero_add]) (by omega) (by show 0 + 5 * T.1.length ≤ 20; omega) hq1 hs1
  obtain ⟨S4, b1, b2, b3⟩ := m_la64 (N := N) hN h ok D N 0 S3 ([] ++ l_Q T Bs 0 T.1.length) (by omega) (fun j => by rw [Nat.zero_add]) (by omega) (by omega) a2 a3
  rw [List.nil_append, l_Q_all t4] at b2
  obtain ⟨j1, j2, j3, j4, j5⟩ := h.2.2.2.2
  have j4 : S0.1 32 = Int32.ofInt 0 := j4
  have hs2 : mk_eq S0 (va_up S4.1 32 (Int32.ofInt 0), S4.2) := ⟨fun k hk => by
    show (if k = 32 then Int32.ofInt 0 else S4.1 k) = S0.1 k
    by_cases e : k = 32
    · rw [if_pos e, e, j4]
    · rw [if_neg e]; exact b3.1 k hk, b3.2⟩
  have hq2 : q_rep (va_up S4.1 32 (Int32.ofInt 0), S4.2) (j_Q 0 (w_Ps T Bs D)) := b2
  have hpok := w_Ps_ok ok T
  generalize (va_up S4.1 32 (Int32.ofInt 0), S4.2) = S2 at b1 hs2 hq2
  obtain ⟨od, hod⟩ := i32_nat (S2.1 33)
  have e32 : S2.1 32 = Int32.ofNat 0 := (hs2.1 32 (by omega)).trans j4
  have e36 : S2.1 36 = Int32.ofNat 0 := (hs2.1 36 (by omega)).trans j2
  have e37 : S2.1 37 = Int32.ofInt 0 := (hs2.1 37 (by omega)).trans j3
  have e7 : S2.1 7 = Int32.ofNat most := (hs2.1 7 (by omega)).trans h.1.2.2.2.1
  have self := ks_self e32 hod e36
  rw [e37] at self
  obtain ⟨fc', a17', c1, c2⟩ := m_ld94 (N := N) (S := S2) (od := od) (rn := 0) (uf := Int32.ofInt 0) (an := S2.1 42) (ho := S2.1 43) (fs := S2.1 44) (al := S2.1 45) (a18 := S2.2 18) (a19 := S2.2 19) (a20 := S2.2 20) (a21 := S2.2 21) hN hm2 e7 hq2 (j_Q 0 (w_Ps T Bs D)).length N 0 ([], false) 0 (S2.2 17) (by omega) (by have := hq2.2.1; omega) ⟨Nat.zero_le _, (fun q => by cases q), rfl, (fun i r hi => by cases hi)⟩
  rw [← self] at c1
  rw [List.drop_zero, ← j_layQ] at c2
  refine ⟨S2, fc', od, S2.1 42, S2.1 43, S2.1 44, S2.1 45, a17', S2.2 18, S2.2 19, S2.2 20, S2.2 21, ?_, hq2, hs2, c2⟩
  unfold fn_Md_loadAll fn_Md_loadAll_0
  rw [n_0] at a1 b1 ⊢
  rw [a1, b1]
  exact c1
/-- the state after a judging -/
theorem mI_ks {S2 : MS} {fc od rn : Nat} {uf an ho fs al v : Int32} {a17 a18 a19 a20 a21 : Nat → Int32} (h : mI S0 lc ln M Bs D Ts K most more re rd un G) (hs : mk_eq S0 S2) {G' : List j_R} (hfc : fc = G'.length) (hr : ∀ (i : Nat) (r : j_R), G'[i]? = some r → r_row a17 i = r) : mI (va_up (ks S2 fc od rn uf an ho fs al a17 a18 a19 a20 a21).1 35 v, (ks S2 fc od rn uf an ho fs al a17 a18 a19 a20 a21).2) lc ln M Bs D Ts K most more v rn uf G' := by
  obtain ⟨⟨f4, f5, f6, f7, f8, f9⟩, hL, hB, hT, -⟩ := h
  refine ⟨⟨(hs.1 4 (by omega)).trans f4, (hs.1 5 (by omega)).trans f5, (hs.1 6 (by omega)).trans f6, (hs.1 7 (by omega)).trans f7, (hs.1 8 (by omega)).trans f8, (hs.1 9 (by omega)).trans f9⟩, ?_, ?_, ?_, rfl, rfl, rfl, by rw [← hfc]; rfl, hr⟩
  · show mL (S2.2 1) (S2.2 2) lc ln
    rw [hs.2 1 (by omega), hs.2 2 (by omega)]
    exact hL
  · show mB (S2.2 1) (S2.2 2) (S2.2 3) M Bs D
    rw [hs.2 1 (by omega), hs.2 2 (by omega), hs.2 3 (by omega)]
    exact hB
  · show mT (S2.2 4) (S2.2 5) (S2.2 6) (S2.2 7) (S2.2 8) Ts
    rw [hs.2 4 (by omega), hs.2 5 (by omega), hs.2 6 (by omega), hs.2 7 (by omega), hs.2 8 (by omega)]
    exact hT
theorem m_au28r {s1 : Int32} (hs : ¬ s1 ≤ 0) (x1 x2 : Int32) : fn_Md_authorize_28 N x1 x2 s1 S = some (Int32.ofInt 0, (va_up S.1 0 s1, S.2)) := by
  unfold fn_Md_authorize_28
  exact if_neg hs
theorem m_auth (hN : 60 ≤ N) (hN2 : 30000 ≤ N) (h : mI S lc ln M Bs D Ts K most more re rd un G) (ok : g_ok lc ln M Bs D Ts K most more) (x1 x2 : Int32) :
    m_out (fn_Md_authorize N x1 x2 S) (s_aut x1 x2 Bs D Ts most more) (fun S => mI S lc ln M Bs D Ts K most more re rd un G) (fun S => mI S lc ln M Bs D Ts K most more (w_jd x1 x2 Bs D Ts most more).1 (w_jd x1 x2 Bs D Ts most more).2.1 (w_jd x1 x2 Bs D Ts most more).2.2.1 (w_jd x1 x2 Bs D Ts most more).2.2.2) := by
  have hT16 := ok.2.2.2.2.1.1
  unfold s_aut fn_Md_authorize fn_Md_authorize_0
  rw [m_isT h, Option.bind_some]
  dsimp only
  by_cases c1 : w_no Ts x1
  · rw [if_pos c1, if_pos (show x1 < 0 ∨ Int32.ofNat Ts.length ≤ x1 from c1), if_pos n_e00]
    exact m_thr h (m_au28r (by decide) _ _) (by decide)
  rw [if_neg c1, if_neg (show ¬ (x1 < 0 ∨ Int32.ofNat Ts.length ≤ x1) from c1), if_neg n_ne10]
  unfold fn_Md_authorize_23
  by_cases c2 : x2 < Int32.ofInt 1
  · rw [if_pos c2, if_pos (show au_no x2 from Or.inl c2)]
    exact m_thr h (m_au28r (by decide) _ _) (by decide)
  rw [if_neg c2]
  by_cases c3 : Int32.ofInt 3 < x2
  · rw [if_neg (show ¬ x2 ≤ Int32.ofInt 3 by rw [Int32.le_iff_toInt_le]; rw [Int32.lt_iff_toInt_lt] at c3; omega), if_pos (show au_no x2 from Or.inr c3)]
    exact m_thr h (m_au28r (by decide) _ _) (by decide)
  rw [if_pos (show x2 ≤ Int32.ofInt 3 by rw [Int32.le_iff_toInt_le]; rw [Int32.lt_iff_toInt_lt] at c3; omega), if_neg (show ¬ au_no x2 from fun q => q.elim c2 c3)]
  obtain ⟨t, ht, hx, hg⟩ := w_at_get hT16 c1
  obtain ⟨⟨t1, t4⟩, tl⟩ := ok.2.2.2.2.1.2 _ (List.mem_of_getElem? hg)
  obtain ⟨⟨hm1, hm2⟩, hm3, hm4⟩ := ok.2.2.2.2.2
  have hpok := w_Ps_ok ok (w_at Ts x1)
  unfold w_jd
  generalize w_at Ts x1 = T at hg t1 t4 tl hpok ⊢
  subst hx
  have hfr : mI (va_up (va_up (va_up (va_up S.1 0 (Int32.ofInt 0)) 36 (Int32.ofInt 0)) 32 (Int32.ofInt 0)) 37 (Int32.ofInt 0), S.2) lc ln M Bs D Ts K most more re 0 (Int32.ofInt 0) [] := by
    obtain ⟨f, hL, hB, hT, j1, -⟩ := h
    exact ⟨f, hL, hB, hT, j1, rfl, rfl, rfl, fun i r hi => by cases hi⟩
  have h00 : (va_up (va_up (va_up (va_up S.1 0 (Int32.ofInt 0)) 36 (Int32.ofInt 0)) 32 (Int32.ofInt 0)) 37 (Int32.ofInt 0), S.2).1 0 = Int32.ofInt 0 := rfl
  unfold fn_Md_authorize_28
  rw [if_pos (show (va_up S.1 0 (Int32.ofInt 0), S.2).1 0 ≤ 0 by show Int32.ofInt 0 ≤ 0; decide)]
  show m_out ((fn_Md_right N (Int32.ofNat t) x2 (va_up (va_up (va_up (va_up S.1 0 (Int32.ofInt 0)) 36 (Int32.ofInt 0)) 32 (Int32.ofInt 0)) 37 (Int32.ofInt 0), S.2)).bind _) _ _ _
  generalize (va_up (va_up (va_up (va_up S.1 0 (Int32.ofInt 0)) 36 (Int32.ofInt 0)) 32 (Int32.ofInt 0)) 37 (Int32.ofInt 0), S.2) = S0 at hfr h00 ⊢
  rw [m_right hN (by omega) (hfr.2.2.2.1.1 t T hg) t4 x2, Option.bind_some]
  dsimp only
  unfold s_jd
  cases hri : w_ok T x2 with
  | false =>
    rw [if_pos (show j_b false = 0 from n_e00), if_pos rfl]
    obtain ⟨f, hL, hB, hT, -, j2, j3, j4, j5⟩ := hfr
    exact ⟨_, rfl, h00, Or.inl ⟨rfl, f, hL, hB, hT, rfl, j2, j3, j4, j5⟩⟩
  | true =>
    rw [if_neg (show ¬ j_b true = 0 from n_ne10), if_neg (show ¬ true = false by decide)]
    obtain ⟨S2, fc, od, an, ho, fs, al, a17, a18, a19, a20, a21, k1, k2, k3, k4⟩ := m_loadAll (N := N) hN hfr ok hg
    rw [k1, Option.bind_some]
    dsimp only
    have e7 : S2.1 7 = Int32.ofNat most := (k3.1 7 (by omega)).trans hfr.1.2.2.2.1
    have e8 : S2.1 8 = Int32.ofNat more := (k3.1 8 (by omega)).trans hfr.1.2.2.2.2.1
    have e0 : S2.1 0 = Int32.ofInt 0 := (k3.1 0 (by omega)).trans h00
    generalize w_Ps T Bs D = Ps at hpok k2 k4 ⊢
    obtain ⟨w1, w2, w3⟩ := s_w0_ok (most := most) hpok
    obtain ⟨fc1, od1, an1, ho1, fs1, al1, b17, b18, b19, b20, b21, p1, p2, p3, p4⟩ := m_made (N := N) (S := S2) (od := od) (uf := Int32.ofInt 0) (an := an) (ho := ho) (fs := fs) (al := al) (a18 := a18) (a19 := a19) (a20 := a20) (a21 := a21) hN hN2 hm2 e7 hm4 e8 k2 k4 w2
    have p1 : fn_Md_made N (ks S2 fc od 0 (Int32.ofInt 0) an ho fs al a17 a18 a19 a20 a21) = some (j_b (s_m Ps most more).1, ks S2 fc1 od1 (s_m Ps most more).2.2 (Int32.ofInt 0) an1 ho1 fs1 al1 b17 b18 b19 b20 b21) := p1
    have p2 : m_rp b17 fc1 most (s_m Ps most more).2.1 := p2
    have p3 : rows_ok (s_m Ps most more).2.1 := p3
    have p4 : (s_m Ps most more).1 = true → od1 = (s_m Ps most more).2.1.1.length := p4
    rw [p1, Option.bind_some]
    dsimp only
    unfold fn_Md_authorize_108
    cases hs : (s_m Ps most more).1 with
    | false =>
      rw [if_pos (show j_b false = 0 from n_e00), if_pos rfl]
      refine ⟨_, rfl, e0, Or.inl ⟨rfl, ?_⟩⟩
      exact mI_ks (fc := 0) (od := od1) (an := an1) (ho := ho1) (fs := fs1) (al := al1) (a18 := b18) (a19 := b19) (a20 := b20) (a21 := b21) (a17 := b17) (v := (Int8.ofInt (-2)).toInt32) hfr k3 (G' := []) rfl (fun i r hi => by cases hi)
    | true =>
      rw [if_neg (show ¬ j_b true = 0 from n_ne10), if_neg (show ¬ true = false by decide)]
      have v2 : (s_m Ps most more).2.1.2 = false := ((j_set_m (room := most) (Ps := Ps) more (s_w0 Ps most) 0 false w1).2.2.2.1 ((j_set_m (room := most) (Ps := Ps) more (s_w0 Ps most) 0 false w1).1.trans hs)).2
      obtain ⟨an2, ho2, fs2, al2, c17, c18, c19, c20, c21, y1, y2⟩ := m_decide (N := N) (S := S2) (rn := (s_m Ps most more).2.2) (uf := Int32.ofInt 0) (an := an1) (ho := ho1) (fs := fs1) (al := al1) (a18 := b18) (a19 := b19) (a20 := b20) (a21 := b21) hN hN2 hm2 e7 k2 p3 p2
      rw [p4 hs]
      have y1 : fn_Md_decide N (ks S2 fc1 (s_m Ps most more).2.1.1.length (s_m Ps most more).2.2 (Int32.ofInt 0) an1 ho1 fs1 al1 b17 b18 b19 b20 b21) = some (s_a Ps (s_m Ps most more).2.1.1, ks S2 fc1 (s_m Ps most more).2.1.1.length (s_m Ps most more).2.2 (s_u Ps (s_m Ps most more).2.1.1) an2 ho2 fs2 al2 c17 c18 c19 c20 c21) := y1
      rw [y1, Option.bind_some]
      dsimp only
      have hfc : fc1 = (s_m Ps most more).2.1.1.length := by
        have := y2.2.2.1
        rw [v2] at this
        exact this
      refine ⟨_, rfl, e0, Or.inl ⟨rfl, ?_⟩⟩
      exact mI_ks hfr k3 hfc y2.2.2.2
end MA2
