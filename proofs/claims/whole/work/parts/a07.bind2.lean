/-! ### The search through the facts -/
def r_bd (r : j_R) : Prop := (-9999 ≤ r.2.2.1.toInt ∧ r.2.2.1.toInt ≤ 9999) ∧ (-9999 ≤ r.2.2.2.1.toInt ∧ r.2.2.2.1.toInt ≤ 9999)
def j_pre (F G : List j_R) : Prop := F.length ≤ G.length ∧ ∀ (i : Nat) (r : j_R), F[i]? = some r → G[i]? = some r
theorem j_ft_bd {t : Int} {x : Int32} {m : Nat} {v : Nat → Int32} {r : Nat × (Nat → Int32)} (hb : v_bd m v) (hx : -9999 ≤ x.toInt ∧ x.toInt ≤ 9999) (h : j_ft t x m v = some r) : v_bd r.1 r.2 := by
  unfold j_ft at h
  split at h
  · split at h
    · cases h; exact hb
    · cases h
  · split at h
    · split at h
      · cases h; exact hb
      · cases h
    · cases h
      intro i hi hbit
      dsimp only at hbit ⊢
      by_cases e : i = j_ix t
      · rw [e, upd_eq]; exact hx
      · rw [upd_ne e]
        refine hb i hi ?_
        rw [Nat.testBit_or, Nat.testBit_two_pow] at hbit
        simpa [Ne.symm e] using hbit
theorem j_fit_bd {a : g_A} {r : j_R} {tr : Int32} {m : Nat} {v : Nat → Int32} {p : Nat × (Nat → Int32)} (hb : v_bd m v) (hr : r_bd r) (h : j_fit a r tr m v = some p) : v_bd p.1 p.2 := by
  unfold j_fit at h
  split at h
  · obtain ⟨p1, e1, h⟩ := md_bd h
    exact j_ft_bd (j_ft_bd hb hr.1 e1) hr.2 h
  · cases h
theorem j_run_ov {room : Nat} {x : g_Cl} : ∀ (L : List (Int32 × (Nat → Int32))) {s : j_S}, s.1.2 = true → j_run room x L s = s
  | [], s, h => rfl
  | oc :: L, s, h => by
    show j_run room x L (j_fing room x s oc) = s
    rw [show j_fing room x s oc = s from if_pos h]
    exact j_run_ov L h
theorem j_run_app {room : Nat} {x : g_Cl} {L1 L2 : List (Int32 × (Nat → Int32))} {s : j_S} : j_run room x (L1 ++ L2) s = j_run room x L2 (j_run room x L1 s) := List.foldl_append
theorem j_off_pre {room : Nat} {r : j_R} {F G : List j_R} {v : Bool} (h : j_pre F G) : j_pre F (j_off room r G v).1 := by
  unfold j_off
  split
  · exact h
  · split
    · exact h
    · refine ⟨by rw [List.length_append]; have := h.1; omega, fun i y hy => ?_⟩
      have := h.2 i y hy
      have hlt := (List.getElem?_eq_some_iff.mp this).1
      rw [List.getElem?_append_left hlt]
      exact this
theorem j_fin_pre {room : Nat} {x : g_Cl} {F : List j_R} {s : j_S} {oc : Int32 × (Nat → Int32)} (h : j_pre F s.1.1) : j_pre F (j_fin room x s oc).1.1 := by
  unfold j_fin
  by_cases e : j_wk oc.2 x.2.2.2.2 [] = 1
  · rw [if_pos e]
    cases hh : x.2.2.1 with
    | none => exact h
    | some y => exact j_off_pre h
  · rw [if_neg e]; exact h
section B2
variable {N : Nat} {C : Nat × Nat} {g : ag_H} {re rd un : Int32} {rf tr : Int32} {room : Nat} {rv : Nat → Option Nat} {ra : Nat → Nat} {F : List j_R}
def jst (g : ag_H) (re rd un : Int32) (kn : Nat) (rf tr : Int32) (room : Nat) (rv : Nat → Option Nat) (s : j_S) (rw : Nat → Nat → Int32) (va sk : Nat → Int32) : ag_H := js g re rd un kn rf tr (j_b s.2.1) (j_b s.2.2.1) (j_b s.2.2.2) s.1.1.length (j_b s.1.2) room rv rw va sk
theorem c_bind (o : 75 ≤ g.1) (hN : 60 ≤ N) (hra : ra_ok rv ra) (hroom : room ≤ 30) {x : g_Cl} {a : Nat} (hx : cl_rep (46 ≤ ·) g a x) (hok : cl_ok x) (hFb : ∀ r, r ∈ F → r_bd r) : ∀ (as : List g_A) (d dp m : Nat) (v : Nat → Int32) (og : Int32) (s : j_S) (rw : Nat → Nat → Int32) (va sk : Nat → Int32), dp + as.length = x.2.2.2.1.length → (∀ j, as[j]? = x.2.2.2.1[dp + j]?) → as.length < d → m < 256 → av m va v → v_bd m v → (∀ i, (j_bm x.2.2.2.1).testBit i = true → (m ||| j_bm as).testBit i = true) → fa_rep rw ra s.1.1 → j_pre F s.1.1 → (as = [] → s.1.2 = false) →
    ∃ rw' va' sk', fn_Jg_bindR N C d 7 (some a) (Int32.ofNat dp) (Int32.ofNat m) og (jst g re rd un F.length rf tr room rv s rw va sk) = some (0, jst g re rd un F.length rf tr room rv (j_run room x (j_all F tr as m v og) s) rw' va' sk') ∧ fa_rep rw' ra (j_run room x (j_all F tr as m v og) s).1.1 ∧ av m va' v ∧ j_pre F (j_run room x (j_all F tr as m v og) s).1.1
  | as, 0, dp, m, v, og, s, rw, va, sk, h1, h2, hd, _, _, _, _, _, _, _ => absurd hd (by omega)
  | [], d + 1, dp, m, v, og, s, rw, va, sk, h1, h2, hd, hm, hav, hvb, hbm, hG, hp, hov => by
    have hx2 := hx
    obtain ⟨p1, p2, p3, r, bl, sa, sv, e1, e2, e3, e4, e5, e6, e7, e8⟩ := hx
    have hl3 := hok.1
    have ea : ag_at (jst g re rd un F.length rf tr room rv s rw va sk) (.ref a) = some (.inr (7, [.int (Int32.ofNat x.1), .int (if x.2.1 = true then Int32.ofInt 1 else Int32.ofInt 0), ag_rf r, .ref bl, .ref sa])) := pu_at p2 p3 ((js_big (Or.inl p1)).trans e1)
    have hal : al_rep (46 ≤ ·) (at_rep (46 ≤ ·) g) (jst g re rd un F.length rf tr room rv s rw va sk) bl x.2.2.2.1 := al_rep_ext (g := g) (Nat.le_refl _) (fun q hq _ => js_big (Or.inl hq)) e3
    simp only [List.length_nil, Nat.add_zero] at h1
    show ∃ rw' va' sk', fn_Jg_bind N C (fn_Jg_bindR N C d) 7 (some a) (Int32.ofNat dp) (Int32.ofNat m) og (jst g re rd un F.length rf tr room rv s rw va sk) = _ ∧ _
    unfold fn_Jg_bind fn_Jg_bind_0
    rw [pu_gr (k := 3) ea rfl, Option.bind_some, al_rep_rc hal, Option.bind_some, al_rep_size hal, Option.bind_some]
    dsimp only
    rw [if_neg (n_ltF (by omega) (by omega))]
    have e7' : ag_rc (jst g re rd un F.length rf tr room rv s rw va sk) (some 7) 3 = some 7 := js_rc7 o
    rw [e7', Option.bind_some]
    have hm2 : ∀ i, (j_bm x.2.2.2.1).testBit i = true → m.testBit i = true := by
      intro i hi
      have := hbm i hi
      rw [show j_bm [] = 0 from rfl, Nat.or_zero] at this
      exact this
    obtain ⟨rw', sk', kf, kr⟩ := c_finish (N := N) (C := C) (re := re) (rd := rd) (un := un) (kn := F.length) (rf := rf) (tr := tr) (sk := sk) o hN hra hroom hx2 hok hG hav hm2 hvb og
    have kf' : fn_Jg_finish N C 7 (some a) og (jst g re rd un F.length rf tr room rv s rw va sk) = some (0, jst g re rd un F.length rf tr room rv (j_fin room x s (og, v)) rw' va sk') := kf
    rw [kf', Option.bind_some]
    have hrun : j_run room x (j_all F tr [] m v og) s = j_fin room x s (og, v) := by
      show j_fing room x s (og, v) = _
      unfold j_fing
      rw [if_neg (by rw [hov rfl]; decide)]
    rw [hrun]
    exact ⟨rw', va, sk', rfl, kr, hav, j_fin_pre hp⟩
  | a0 :: as, d + 1, dp, m, v, og, s, rw, va, sk, h1, h2, hd, hm, hav, hvb, hbm, hG, hp, hov => by
    have hx2 := hx
    obtain ⟨p1, p2, p3, r, bl, sa, sv, e1, e2, e3, e4, e5, e6, e7, e8⟩ := hx
    have hl3 := hok.1
    simp only [List.length_cons] at h1 hd
    have ea : ag_at (jst g re rd un F.length rf tr room rv s rw va sk) (.ref a) = some (.inr (7, [.int (Int32.ofNat x.1), .int (if x.2.1 = true then Int32.ofInt 1 else Int32.ofInt 0), ag_rf r, .ref bl, .ref sa])) := pu_at p2 p3 ((js_big (Or.inl p1)).trans e1)
    have hal : al_rep (46 ≤ ·) (at_rep (46 ≤ ·) g) (jst g re rd un F.length rf tr room rv s rw va sk) bl x.2.2.2.1 := al_rep_ext (g := g) (Nat.le_refl _) (fun q hq _ => js_big (Or.inl hq)) e3
    have hget : x.2.2.2.1[dp]? = some a0 := by
      have := h2 0
      rw [Nat.add_zero] at this
      rw [← this]; rfl
    obtain ⟨b, hb1, hb2⟩ := al_rep_get (N := N) (C := C) hal hget
    obtain ⟨b1, b2, b3, b4⟩ := hb2
    have hat0 := hok.2.1 a0 (List.mem_of_getElem? hget)
    have hck : ag_ck (jst g re rd un F.length rf tr room rv s rw va sk) (some b) 6 = true := pu_ck (pu_at b2 b3 ((js_big (Or.inl b1)).trans b4))
    show ∃ rw' va' sk', fn_Jg_bind N C (fn_Jg_bindR N C d) 7 (some a) (Int32.ofNat dp) (Int32.ofNat m) og (jst g re rd un F.length rf tr room rv s rw va sk) = _ ∧ _
    unfold fn_Jg_bind fn_Jg_bind_0
    rw [pu_gr (k := 3) ea rfl, Option.bind_some, al_rep_rc hal, Option.bind_some, al_rep_size hal, Option.bind_some]
    dsimp only
    rw [if_pos (n_ltT (by omega) (by omega)), pu_gr (k := 3) ea rfl, Option.bind_some, al_rep_rc hal, Option.bind_some, hb1, Option.bind_some]
    dsimp only
    rw [if_pos hck]
    -- the loop over the facts
    have loop : ∀ (n k d2 : Nat) (s : j_S) (rw : Nat → Nat → Int32) (va sk : Nat → Int32), k + n = F.length → n < d2 → av m va v → fa_rep rw ra s.1.1 → j_pre F s.1.1 →
        ∃ rw' va' sk', fn_Jg_bind_39 N C (fn_Jg_bindR N C d) 7 d2 (some a) (Int32.ofNat dp) (Int32.ofNat m) og (some b) (Int32.ofNat k) (jst g re rd un F.length rf tr room rv s rw va sk) = some ((0 : Int32), jst g re rd un F.length rf tr room rv (j_run room x ((F.drop k).flatMap fun r => match j_fit a0 r tr m v with | none => [] | some p => j_all F tr as p.1 p.2 (og ||| r.2.2.2.2)) s) rw' va' sk') ∧ fa_rep rw' ra (j_run room x ((F.drop k).flatMap fun r => match j_fit a0 r tr m v with | none => [] | some p => j_all F tr as p.1 p.2 (og ||| r.2.2.2.2)) s).1.1 ∧ av m va' v ∧ j_pre F (j_run room x ((F.drop k).flatMap fun r => match j_fit a0 r tr m v with | none => [] | some p => j_all F tr as p.1 p.2 (og ||| r.2.2.2.2)) s).1.1 := by
      intro n
      induction n with
      | zero =>
        intro k d2 s rw va sk hk hd2 hav hG hp
        obtain ⟨d3, rfl⟩ : ∃ d3, d2 = d3 + 1 := ⟨d2 - 1, by omega⟩
        have hdr : F.drop k = [] := List.drop_eq_nil_of_le (by omega)
        rw [hdr]
        refine ⟨rw, va, sk, ?_, hG, hav, hp⟩
        have hFG := hp.1
        have hG30 := hG.1
        rw [fe_Jg_bind_39, show ag_gi (jst g re rd un F.length rf tr room rv s rw va sk) (some 7) 3 8 = some (Int32.ofNat F.length) from js_g7_8 o, Option.bind_some, if_pos (n_leT (by omega) (by omega))]
        rfl
      | succ n ih =>
        intro k d2 s rw va sk hk hd2 hav hG hp
        obtain ⟨d3, rfl⟩ : ∃ d3, d2 = d3 + 1 := ⟨d2 - 1, by omega⟩
        have hFG := hp.1
        have hG30 := hG.1
        obtain ⟨y, hy⟩ : ∃ y, F[k]? = some y := ⟨F[k]'(by omega), List.getElem?_eq_getElem (by omega)⟩
        have hdr : F.drop k = y :: F.drop (k + 1) := by
          have hlt : k < F.length := by omega
          rw [List.drop_eq_getElem_cons hlt]
          congr 1
          have := List.getElem?_eq_getElem hlt
          rw [this] at hy
          exact Option.some.inj hy
        rw [fe_Jg_bind_39, show ag_gi (jst g re rd un F.length rf tr room rv s rw va sk) (some 7) 3 8 = some (Int32.ofNat F.length) from js_g7_8 o, Option.bind_some, if_neg (n_leF (by omega) (by omega)), show ag_gr (jst g re rd un F.length rf tr room rv s rw va sk) (some 7) 3 0 = some (some 8) from js_r7_0 o, Option.bind_some, show ag_gi (jst g re rd un F.length rf tr room rv s rw va sk) (some 8) 4 2 = some (j_b s.1.2) from js_g8_2 o, Option.bind_some]
        by_cases eo : s.1.2 = true
        · rw [eo, if_neg (by decide), j_run_ov _ eo]
          exact ⟨rw, va, sk, rfl, hG, hav, hp⟩
        · have eo' : s.1.2 = false := by simpa using eo
          obtain ⟨q1, q2, q3⟩ := hra.1 k (by omega)
          have hrow : j_row (rw (ra k)) = y := hG.2 k y (hp.2 k y hy)
          have hyF : y ∈ F := List.mem_of_getElem? hy
          rw [eo', if_pos (by decide), Option.bind_some, show ag_gr (jst g re rd un F.length rf tr room rv s rw va sk) (some 8) 4 0 = some (some 9) from js_r8_0 o, Option.bind_some, show ag_ao (jst g re rd un F.length rf tr room rv s rw va sk) (some 9) = some (31, rv) from js_ao o, Option.bind_some, if_pos (show md_in (Int32.ofNat k) 31 = true by rw [n_in (by omega)]; omega), show ag_rc (jst g re rd un F.length rf tr room rv s rw va sk) (some 7) 3 = some 7 from js_rc7 o, Option.bind_some, n_nat (by omega)]
          dsimp only
          rw [q1]
          have kf := c_fit (N := N) (C := C) (re := re) (rd := rd) (un := un) (kn := F.length) (rf := rf) (tr := tr) (he := j_b s.2.1) (mi := j_b s.2.2.1) (fa := j_b s.2.2.2) (sz := s.1.1.length) (ov := j_b s.1.2) (room := room) (rv := rv) (rw := rw) (sk := sk) o b1 b3 b4 hat0.1 hat0.2 q2 q3 hm hav
          rw [hrow] at kf
          rw [hdr, List.flatMap_cons, j_run_app]
          cases ef : j_fit a0 y tr m v with
          | none =>
            rw [ef] at kf
            obtain ⟨va1, kf, hav1⟩ := kf
            have kf' : fn_Jg_fit N C 7 (some b) (some (ra k)) (Int32.ofNat m) (jst g re rd un F.length rf tr room rv s rw va sk) = some (Int32.ofInt (-1), jst g re rd un F.length rf tr room rv s rw va1 sk) := kf
            rw [kf', Option.bind_some, if_pos rfl]
            unfold fn_Jg_bind_104
            rw [n_1, n_add]
            exact ih (k + 1) d3 s rw va1 sk (by omega) (by omega) hav1 hG hp
          | some p =>
            rw [ef] at kf
            obtain ⟨hp256, va1, kf, hav1⟩ := kf
            have kf' : fn_Jg_fit N C 7 (some b) (some (ra k)) (Int32.ofNat m) (jst g re rd un F.length rf tr room rv s rw va sk) = some (Int32.ofNat p.1, jst g re rd un F.length rf tr room rv s rw va1 sk) := kf
            have hne : ¬ Int32.ofNat p.1 = Int32.ofInt (-1) := by
              intro q
              have := congrArg Int32.toInt q
              rw [n_toInt (by omega), i_toInt (by decide) (by decide)] at this
              omega
            obtain ⟨f1, f2⟩ := j_fit_mono ef
            rw [Nat.or_zero] at f1
            have hrow4 : rw (ra k) 4 = y.2.2.2.2 := by rw [← hrow]; rfl
            rw [kf', Option.bind_some]
            dsimp only
            rw [if_neg hne, show ag_ai (jst g re rd un F.length rf tr room rv s rw va1 sk) 0 (some (ra k)) = some (5, rw (ra k)) from js_rwi o q2 q3, Option.bind_some, if_pos (show md_in (Int32.ofInt 4) 5 = true by decide), show ag_rc (jst g re rd un F.length rf tr room rv s rw va1 sk) (some 7) 3 = some 7 from js_rc7 o, Option.bind_some, show (Int32.ofInt 4).toNatClampNeg = 4 by decide]
            dsimp only
            rw [hrow4, n_1, n_add]
            obtain ⟨rw2, va2, sk2, k2, k3, k4, k5⟩ := c_bind o hN hra hroom hx2 hok hFb as d (dp + 1) p.1 p.2 (og ||| y.2.2.2.2) s rw va1 sk (by omega) (fun j => by
              have := h2 (j + 1)
              rw [show dp + (j + 1) = dp + 1 + j by omega] at this
              rw [← this]; rfl) (by omega) hp256 hav1 (j_fit_bd hvb (hFb y hyF) ef) (fun i hi => by
              have := hbm i hi
              rw [f1]
              unfold j_bm at this
              rw [Nat.or_assoc, Nat.or_assoc]
              exact this) hG hp (fun _ => eo')
            rw [k2, Option.bind_some]
            unfold fn_Jg_bind_104
            have hav2 : av m va2 v := by
              intro i hi hb
              rw [k4 i hi (by rw [f1, Nat.testBit_or, hb]; rfl), f2 i hb]
            have n11 : Int32.ofNat k + Int32.ofNat 1 = Int32.ofNat (k + 1) := n_add k 1
            have fin := ih (k + 1) d3 (j_run room x (j_all F tr as p.1 p.2 (og ||| y.2.2.2.2)) s) rw2 va2 sk2 (by omega) (by omega) hav2 k3 k5
            rw [← n11] at fin
            exact fin
    have key := loop F.length 0 N s rw va sk (by omega) (by have := hp.1; have := hG.1; omega) hav hG hp
    rw [List.drop_zero] at key
    rw [n_0]
    exact key
end B2
