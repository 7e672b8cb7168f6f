/-! ### The verdict -/
def j_ver (rf er : Bool) (po un : Int32) : Int32 := if (rf || er) = true then (Int8.ofInt (-3)).toInt32 else if po = (Int8.ofInt (-3)).toInt32 then (Int8.ofInt (-3)).toInt32 else if un = 0 then po else (Int8.ofInt (-4)).toInt32
section VF
variable {N : Nat} {C : Nat × Nat} {g : ag_H} {re rd : Int32} {room : Nat} {rv : Nat → Option Nat} {ra : Nat → Nat} {F : List j_R} {w : j_W}
theorem c_chk6 {rf : Int32} (o : 75 ≤ g.1) (hN : 60 ≤ N) (hra : ra_ok rv ra) (hroom : room ≤ 30) (hFb : ∀ r, r ∈ F → r_bd r) {Ps : List (List g_Cl)} (hP : pl_rep g Ps) (hpr : j_pre F w.1) : ∀ (Qs : List (List g_Cl)) (d p : Nat) (z : j_K) (tr he mi fa : Int32) (rw : Nat → Nat → Int32) (va sk : Nat → Int32), p + Qs.length = 5 → (∀ j, Qs[j]? = Ps[p + j]?) → Qs.length < d → z.2.1 + 10 * Qs.length ≤ 500 → fa_rep rw ra w.1 →
    ∃ tr' he' mi' fa' rw' va' sk', fn_Jg_lookAtChecks_6 N C 7 d (j_b z.1) (Int32.ofNat z.2.1) (Int32.ofNat p) (js g re rd z.2.2 F.length rf tr he mi fa w.1.length (j_b w.2) room rv rw va sk) = some (j_b (j_chkP room F w p Qs z).1, js g re rd (j_chkP room F w p Qs z).2.2 F.length rf tr' he' mi' fa' w.1.length (j_b w.2) room rv rw' va' sk') ∧ fa_rep rw' ra w.1
  | Qs, 0, p, z, tr, he, mi, fa, rw, va, sk, hp, hq, hd, hz, hG => absurd hd (by omega)
  | [], d + 1, p, z, tr, he, mi, fa, rw, va, sk, hp, hq, hd, hz, hG => by
    simp only [List.length_nil, Nat.add_zero] at hp
    refine ⟨tr, he, mi, fa, rw, va, sk, ?_, hG⟩
    rw [fe_Jg_lookAtChecks_6, n_5, if_pos (n_leT (by omega) (by omega)), if_pos (j_b01 _)]
    rfl
  | L :: Qs, d + 1, p, z, tr, he, mi, fa, rw, va, sk, hp, hq, hd, hz, hG => by
    simp only [List.length_cons] at hp hd hz
    obtain ⟨h5, pv, hpv, hall⟩ := hP
    have hget : Ps[p]? = some L := by
      have := hq 0
      rw [Nat.add_zero] at this
      rw [← this]; rfl
    have hqs : ∀ j, Qs[j]? = Ps[p + 1 + j]? := fun j => by
      have := hq (j + 1)
      rw [show p + (j + 1) = p + 1 + j by omega] at this
      rw [← this]; rfl
    obtain ⟨b, l, hb1, hb2, hb3, hb4, hb5, hb6, hb7, hb8⟩ := hall p L hget
    rw [fe_Jg_lookAtChecks_6, n_5, if_neg (n_leF (by omega) (by omega)), js_r7_2 o, Option.bind_some, js_43 o hpv, Option.bind_some, if_pos (show md_in (Int32.ofNat p) 5 = true by rw [n_in (by omega)]; omega), n_nat (by omega)]
    dsimp only
    rw [hb1, js_blk hb2 hb3 hb4 hb5, Option.bind_some, n_0]
    obtain ⟨tr1, he1, mi1, fa1, rw1, va1, sk1, k1, k2, k3⟩ := c_chk25 (N := N) (C := C) (re := re) (rd := rd) (rf := rf) o hN hra hroom hFb (show p < 5 by omega) hb6 hb7 (fun x hx => ⟨(hb8 x hx).1, (hb8 x hx).2.2.1, (hb8 x hx).2.2.2.1, (hb8 x hx).2.2.2.2⟩) hpr (fn_Jg_lookAtChecks_6 N C 7 d) L N 0 z tr he mi fa rw va sk (by omega) (fun j => by rw [Nat.zero_add]) (by omega) (by omega) hG
    rw [k1]
    exact c_chk6 o hN hra hroom hFb ⟨h5, pv, hpv, hall⟩ hpr Qs d (p + 1) (j_chkB room F w p L z) tr1 he1 mi1 fa1 rw1 va1 sk1 (by omega) hqs (by omega) (by omega) k2
theorem c_pol14 {un rf : Int32} (o : 75 ≤ g.1) (hN : 60 ≤ N) (hra : ra_ok rv ra) (hroom : room ≤ 30) (hFb : ∀ r, r ∈ F → r_bd r) {l : Nat} {L : List g_Cl} (hL : al_rep jP (cl_rep (46 ≤ ·) g) g l L) (hl : L.length ≤ 10) (hk : ∀ x, x ∈ L → cl_ok x ∧ (x.1 ≠ 0 → 1 ≤ x.2.2.2.1.length) ∧ x.1 ≤ 5 ∧ (2 ≤ x.1 → x.2.2.1 = none)) (hpr : j_pre F w.1) : ∀ (xs : List g_Cl) (d i n : Nat) (tr he mi fa : Int32) (rw : Nat → Nat → Int32) (va sk : Nat → Int32), i + xs.length = L.length → (∀ j, xs[j]? = L[i + j]?) → xs.length < d → n ≤ i → fa_rep rw ra w.1 →
    ∃ tr' he' mi' fa' rw' va' sk', fn_Jg_lookAtPolicies_14 N C 7 d (some l) (Int32.ofNat n) (Int32.ofNat i) (js g re rd un F.length rf tr he mi fa w.1.length (j_b w.2) room rv rw va sk) = some (j_pol room F w xs n, js g re rd un F.length rf tr' he' mi' fa' w.1.length (j_b w.2) room rv rw' va' sk') ∧ fa_rep rw' ra w.1
  | xs, 0, i, n, tr, he, mi, fa, rw, va, sk, hi, hx, hd, hn, hG => absurd hd (by omega)
  | [], d + 1, i, n, tr, he, mi, fa, rw, va, sk, hi, hx, hd, hn, hG => by
    simp only [List.length_nil, Nat.add_zero] at hi
    have hal : al_rep jP (cl_rep (46 ≤ ·) g) (js g re rd un F.length rf tr he mi fa w.1.length (j_b w.2) room rv rw va sk) l L := al_rep_ext (g := g) (Nat.le_refl _) (fun q hq _ => jP_big hq) hL
    refine ⟨tr, he, mi, fa, rw, va, sk, ?_, hG⟩
    rw [fe_Jg_lookAtPolicies_14, al_rep_rc hal, Option.bind_some, al_rep_size hal, Option.bind_some]
    dsimp only
    rw [if_pos (n_leT (by omega) (by omega))]
    rfl
  | x :: xs, d + 1, i, n, tr, he, mi, fa, rw, va, sk, hi, hx, hd, hn, hG => by
    simp only [List.length_cons] at hi hd
    have hal : al_rep jP (cl_rep (46 ≤ ·) g) (js g re rd un F.length rf tr he mi fa w.1.length (j_b w.2) room rv rw va sk) l L := al_rep_ext (g := g) (Nat.le_refl _) (fun q hq _ => jP_big hq) hL
    have hget : L[i]? = some x := by
      have := hx 0
      rw [Nat.add_zero] at this
      rw [← this]; rfl
    have hxs : ∀ j, xs[j]? = L[i + 1 + j]? := fun j => by
      have := hx (j + 1)
      rw [show i + (j + 1) = i + 1 + j by omega] at this
      rw [← this]; rfl
    obtain ⟨a, ha1, ha2⟩ := al_rep_get (N := N) (C := C) hal hget
    have hcl := ha2
    obtain ⟨p1, p2, p3, r, bl, sa, sv, e1, e2, e3, e4, e5, e6, e7, e8⟩ := ha2
    have ea : ∀ un kn rf tr he mi fa sz ov rw va sk, ag_at (js g re rd un kn rf tr he mi fa sz ov room rv rw va sk) (.ref a) = some (.inr (7, [.int (Int32.ofNat x.1), .int (if x.2.1 = true then Int32.ofInt 1 else Int32.ofInt 0), ag_rf r, .ref bl, .ref sa])) := fun un kn rf tr he mi fa sz ov rw va sk => pu_at p2 p3 ((js_big (Or.inl p1)).trans e1)
    obtain ⟨hok, hb1, hk5, hk2⟩ := hk x (List.mem_of_getElem? hget)
    have ad1 : ∀ q : Nat, Int32.ofNat q + Int32.ofInt 1 = Int32.ofNat (q + 1) := fun q => by rw [n_1, n_add]
    rw [fe_Jg_lookAtPolicies_14, al_rep_rc hal, Option.bind_some, al_rep_size hal, Option.bind_some]
    dsimp only
    rw [if_neg (n_leF (by omega) (by omega)), al_rep_rc hal, Option.bind_some, ha1, Option.bind_some]
    dsimp only
    rw [if_pos (pu_ck (ea _ _ _ _ _ _ _ _ _ _ _ _)), pu_gi (k := 0) (ea _ _ _ _ _ _ _ _ _ _ _ _) rfl, Option.bind_some]
    have do57 : x.1 = 4 ∨ x.1 = 5 → ∃ tr' he' mi' fa' rw' va' sk', fn_Jg_lookAtPolicies_57 N C 7 (fn_Jg_lookAtPolicies_14 N C 7 d) (some l) (Int32.ofNat n) (Int32.ofNat i) (some a) (js g re rd un F.length rf tr he mi fa w.1.length (j_b w.2) room rv rw va sk) = some (j_pol room F w (x :: xs) n, js g re rd un F.length rf tr' he' mi' fa' w.1.length (j_b w.2) room rv rw' va' sk') ∧ fa_rep rw' ra w.1 := by
      intro hx45
      have hhd := hk2 (by omega)
      obtain ⟨rw1, va1, sk1, k1, kG, kp⟩ := c_search (N := N) (C := C) (re := re) (rd := rd) (un := un) (rf := rf) (tr := tr) (he := he) (mi := mi) (fa := fa) (va := va) (sk := sk) o hN hra hroom hcl hok (hb1 (by omega)) hFb hG hpr 4
      unfold jst at k1
      rw [j_srch_hd hhd] at k1 kG
      unfold fn_Jg_lookAtPolicies_57 fn_Jg_lookAtPolicies_100 fn_Jg_lookAtPolicies_96
      rw [js_rc7 o, Option.bind_some, n_4, k1, Option.bind_some]
      dsimp only
      rw [js_g7_13 o, Option.bind_some]
      unfold j_pol
      rw [if_pos hx45]
      by_cases ef : (j_srch room x 4 F w).2.2.2 = true
      · rw [if_pos ef, if_neg (show ¬ j_b (j_srch room x 4 F w).2.2.2 = 0 by rw [ef]; decide)]
        exact ⟨_, _, _, _, rw1, va1, sk1, rfl, kG⟩
      · have ef' : (j_srch room x 4 F w).2.2.2 = false := by simpa using ef
        rw [if_neg ef, if_pos (show j_b (j_srch room x 4 F w).2.2.2 = 0 by rw [ef']; rfl), js_g7_11 o, Option.bind_some]
        by_cases eh : (j_srch room x 4 F w).2.1 = true
        · rw [if_pos eh, if_neg (show ¬ j_b (j_srch room x 4 F w).2.1 = 0 by rw [eh]; decide), pu_gi (k := 0) (ea _ _ _ _ _ _ _ _ _ _ _ _) rfl, Option.bind_some]
          by_cases e4k : x.1 = 4
          · rw [if_pos (show Int32.ofNat x.1 = Int32.ofNat 4 by rw [e4k]), if_pos e4k]
            exact ⟨_, _, _, _, rw1, va1, sk1, rfl, kG⟩
          · rw [if_neg (n_eqF e4k (by omega) (by omega)), if_neg e4k]
            exact ⟨_, _, _, _, rw1, va1, sk1, rfl, kG⟩
        · have eh' : (j_srch room x 4 F w).2.1 = false := by simpa using eh
          rw [if_neg eh, if_pos (show j_b (j_srch room x 4 F w).2.1 = 0 by rw [eh']; rfl), ad1, ad1]
          exact c_pol14 o hN hra hroom hFb hL hl hk hpr xs d (i + 1) (n + 1) _ _ _ _ rw1 va1 sk1 (by omega) hxs (by omega) (by omega) kG
    by_cases e4k : x.1 = 4
    · rw [if_pos (show Int32.ofNat x.1 = Int32.ofInt 4 by rw [e4k]; rfl)]
      exact do57 (Or.inl e4k)
    · rw [if_neg (show ¬ Int32.ofNat x.1 = Int32.ofInt 4 from n_eqF (b := 4) e4k (by omega) (by omega)), Option.bind_some]
      by_cases e5k : x.1 = 5
      · rw [if_pos (show Int32.ofNat x.1 = Int32.ofInt 5 by rw [e5k]; rfl)]
        exact do57 (Or.inr e5k)
      · rw [if_neg (show ¬ Int32.ofNat x.1 = Int32.ofInt 5 from n_eqF (b := 5) e5k (by omega) (by omega))]
        unfold fn_Jg_lookAtPolicies_100 j_pol
        rw [ad1, if_neg (by omega)]
        exact c_pol14 o hN hra hroom hFb hL hl hk hpr xs d (i + 1) n tr he mi fa rw va sk (by omega) hxs (by omega) (by omega) hG
/-- the verdict over the facts that there are -/
theorem c_verdict (o : 75 ≤ g.1) (hN : 60 ≤ N) (hra : ra_ok rv ra) (hroom : room ≤ 30) {Ps : List (List g_Cl)} (hP : pl_rep g Ps) {D : List g_Cl} (hD : Ps[4]? = some D) {f : Bool} {un tr he mi fa : Int32} {rw : Nat → Nat → Int32} {va sk : Nat → Int32} (hG : fa_rep rw ra w.1) (hbd : g_bd30 w.1) :
    ∃ tr' he' mi' fa' rw' va' sk', fn_Jg_verdict N C 7 (js g re rd un w.1.length (j_b f) tr he mi fa w.1.length (j_b w.2) room rv rw va sk) = some (j_ver f (j_chkP room w.1 w 0 Ps (false, 0, un)).1 (j_pol room w.1 w D 0) (j_chkP room w.1 w 0 Ps (false, 0, un)).2.2, js g re rd (j_chkP room w.1 w 0 Ps (false, 0, un)).2.2 w.1.length (j_b f) tr' he' mi' fa' w.1.length (j_b w.2) room rv rw' va' sk') ∧ fa_rep rw' ra w.1 := by
  have hpr : j_pre w.1 w.1 := ⟨Nat.le_refl _, fun _ _ h => h⟩
  obtain ⟨tr1, he1, mi1, fa1, rw1, va1, sk1, k1, k2⟩ := c_chk6 (N := N) (C := C) (re := re) (rd := rd) (F := w.1) (w := w) (rf := j_b f) o hN hra hroom hbd hP hpr Ps N 0 (false, 0, un) tr he mi fa rw va sk (by rw [hP.1]) (fun j => by rw [Nat.zero_add]) (by rw [hP.1]; omega) (by rw [hP.1]; show 0 + 10 * 5 ≤ 500; omega) hG
  obtain ⟨h5, pv, hpv, hall⟩ := hP
  obtain ⟨b, l, hb1, hb2, hb3, hb4, hb5, hb6, hb7, hb8⟩ := hall 4 D hD
  obtain ⟨tr2, he2, mi2, fa2, rw2, va2, sk2, k3, k4⟩ := c_pol14 (N := N) (C := C) (re := re) (rd := rd) (F := w.1) (w := w) (un := (j_chkP room w.1 w 0 Ps (false, 0, un)).2.2) (rf := j_b f) o hN hra hroom hbd hb6 hb7 (fun x hx => ⟨(hb8 x hx).1, (hb8 x hx).2.2.1, (hb8 x hx).2.2.2.1, (hb8 x hx).2.2.2.2⟩) hpr D N 0 0 tr1 he1 mi1 fa1 rw1 va1 sk1 (by omega) (fun j => by rw [Nat.zero_add]) (by omega) (by omega) k2
  have k1' : fn_Jg_lookAtChecks N C 7 (js g re rd un w.1.length (j_b f) tr he mi fa w.1.length (j_b w.2) room rv rw va sk) = _ := k1
  have kp : fn_Jg_lookAtPolicies N C 7 (js g re rd (j_chkP room w.1 w 0 Ps (false, 0, un)).2.2 w.1.length (j_b f) tr1 he1 mi1 fa1 w.1.length (j_b w.2) room rv rw1 va1 sk1) = some (j_pol room w.1 w D 0, js g re rd (j_chkP room w.1 w 0 Ps (false, 0, un)).2.2 w.1.length (j_b f) tr2 he2 mi2 fa2 w.1.length (j_b w.2) room rv rw2 va2 sk2) := by
    unfold fn_Jg_lookAtPolicies fn_Jg_lookAtPolicies_0
    rw [js_r7_2 o, Option.bind_some, js_43 o hpv, Option.bind_some, if_pos (show md_in (Int32.ofInt 4) 5 = true by decide)]
    dsimp only
    rw [show (Int32.ofInt 4).toNatClampNeg = 4 by decide, hb1, js_blk hb2 hb3 hb4 hb5, Option.bind_some]
    exact k3
  refine ⟨tr2, he2, mi2, fa2, rw2, va2, sk2, ?_, k4⟩
  unfold fn_Jg_verdict fn_Jg_verdict_0 fn_Jg_verdict_27 fn_Jg_verdict_43 j_ver
  rw [js_g7_9 o, Option.bind_some, js_rc7 o, Option.bind_some, k1', Option.bind_some]
  dsimp only
  rw [js_rc7 o, Option.bind_some, kp, Option.bind_some]
  dsimp only
  rw [j_orb]
  by_cases e1 : (f || (j_chkP room w.1 w 0 Ps (false, 0, un)).1) = true
  · rw [if_pos e1, e1, if_neg (by decide)]
  · have e1' : (f || (j_chkP room w.1 w 0 Ps (false, 0, un)).1) = false := by simpa using e1
    rw [if_neg e1, e1', if_pos (by decide)]
    by_cases e2 : j_pol room w.1 w D 0 = (Int8.ofInt (-3)).toInt32
    · rw [if_pos e2, if_pos e2]
    · rw [if_neg e2, if_neg e2, js_g7_5 o, Option.bind_some]
      by_cases e3 : (j_chkP room w.1 w 0 Ps (false, 0, un)).2.2 = 0
      · rw [if_pos e3, if_pos e3]
      · rw [if_neg e3, if_neg e3]
/-- facts are laid, rounds are made -/
theorem c_settle {un : Int32} (o : 75 ≤ g.1) (hN : 60 ≤ N) (hra : ra_ok rv ra) (hroom : room ≤ 30) {Ps : List (List g_Cl)} (hP : pl_rep g Ps) {more : Nat} (hmo : more ≤ 12) {f : Bool} {kn : Nat} {tr he mi fa : Int32} {rw : Nat → Nat → Int32} {va sk : Nat → Int32} (hbd : g_bd30 (j_layP room 0 Ps ([], false)).1) :
    ∃ kn' tr' he' mi' fa' rw' va' sk', fn_Jg_settle N C 7 (Int32.ofNat more) (js g re (Int32.ofNat 0) un kn (j_b f) tr he mi fa 0 (j_b false) room rv rw va sk) = some (j_b (j_set room Ps more (j_layP room 0 Ps ([], false)) 0 f).1, js g re (Int32.ofNat (j_set room Ps more (j_layP room 0 Ps ([], false)) 0 f).2.2.1) un kn' (j_b (j_set room Ps more (j_layP room 0 Ps ([], false)) 0 f).2.2.2) tr' he' mi' fa' (j_set room Ps more (j_layP room 0 Ps ([], false)) 0 f).2.1.1.length (j_b (j_set room Ps more (j_layP room 0 Ps ([], false)) 0 f).2.1.2) room rv rw' va' sk') ∧ fa_rep rw' ra (j_set room Ps more (j_layP room 0 Ps ([], false)) 0 f).2.1.1 ∧ g_bd30 (j_set room Ps more (j_layP room 0 Ps ([], false)) 0 f).2.1.1 ∧ ((j_set room Ps more (j_layP room 0 Ps ([], false)) 0 f).1 = true → kn' = (j_set room Ps more (j_layP room 0 Ps ([], false)) 0 f).2.1.1.length) := by
  obtain ⟨rw1, k1, k2⟩ := c_layFacts (N := N) (C := C) (re := re) (rd := Int32.ofNat 0) (un := un) (kn := kn) (rf := j_b f) (tr := tr) (he := he) (mi := mi) (fa := fa) (va := va) (sk := sk) (w := ([], false)) (rw := rw) o hN hra hroom hP ⟨Nat.zero_le _, fun i r hi => by cases hi⟩
  have k1' : fn_Jg_layFacts N C 7 (js g re (Int32.ofNat 0) un kn (j_b f) tr he mi fa 0 (j_b false) room rv rw va sk) = _ := k1
  unfold fn_Jg_settle fn_Jg_settle_0
  rw [js_rc7 o, Option.bind_some, k1', Option.bind_some, n_0]
  exact c_set6 o hN hra hroom hP hmo more N 0 0 (j_layP room 0 Ps ([], false)) f kn tr he mi fa rw1 va sk (by omega) (by omega) (by omega) k2 hbd
end VF
