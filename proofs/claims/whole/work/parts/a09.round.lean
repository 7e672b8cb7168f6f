/-! ### Rounds -/
theorem j_all_bd {F : List j_R} {tr : Int32} (hF : ∀ r, r ∈ F → r_bd r) : ∀ (as : List g_A) (m : Nat) (v : Nat → Int32) (og : Int32), v_bd m v → ∀ oc, oc ∈ j_all F tr as m v og → v_bd (m ||| j_bm as) oc.2
  | [], m, v, og, hv, oc, h => by
    rw [show j_all F tr [] m v og = [(og, v)] from rfl, List.mem_singleton] at h
    rw [h, show j_bm [] = 0 from rfl, Nat.or_zero]
    exact hv
  | a :: as, m, v, og, hv, oc, h => by
    unfold j_all at h
    obtain ⟨r, hr, h⟩ := List.mem_flatMap.mp h
    cases ef : j_fit a r tr m v with
    | none => rw [ef] at h; cases h
    | some p =>
      rw [ef] at h
      have := j_all_bd hF as p.1 p.2 _ (j_fit_bd hv (hF r hr) ef) oc h
      obtain ⟨f1, -⟩ := j_fit_mono ef
      rw [Nat.or_zero] at f1
      rw [f1, Nat.or_assoc, Nat.or_assoc] at this
      exact this
def g_bd30 (w : List j_R) : Prop := ∀ r, r ∈ w → r_bd r
theorem j_val_bd {v : Nat → Int32} {m : Nat} {t : Int} (hv : v_bd m v) (ht : j_tv t) (hm : ¬ t < 1048576 → m.testBit (j_ix t) = true) : -9999 ≤ (j_val v t).toInt ∧ (j_val v t).toInt ≤ 9999 := by
  unfold j_val
  by_cases e : t < 1048576
  · rw [if_pos e]
    unfold j_tv at ht
    rw [i_toInt (by omega) (by omega)]
    omega
  · rw [if_neg e]
    exact hv _ (j_ix_lt ht e).1 (hm e)
theorem j_off_bd {room : Nat} {r : j_R} {G : List j_R} {v : Bool} (hG : g_bd30 G) (hr : r_bd r) : g_bd30 (j_off room r G v).1 := by
  unfold j_off
  split
  · exact hG
  · split
    · exact hG
    · intro y hy
      rcases List.mem_append.mp hy with h | h
      · exact hG y h
      · rw [List.mem_singleton.mp h]; exact hr
theorem j_run_bd {room : Nat} {x : g_Cl} (hok : cl_ok x) : ∀ (L : List (Int32 × (Nat → Int32))) (s : j_S), (∀ oc, oc ∈ L → v_bd (j_bm x.2.2.2.1) oc.2) → g_bd30 s.1.1 → g_bd30 (j_run room x L s).1.1
  | [], s, hL, hs => hs
  | oc :: L, s, hL, hs => by
    refine j_run_bd hok L (j_fing room x s oc) (fun o ho => hL o (List.mem_cons_of_mem _ ho)) ?_
    unfold j_fing
    by_cases e : s.1.2 = true
    · rw [if_pos e]; exact hs
    · rw [if_neg e]
      unfold j_fin
      by_cases e1 : j_wk oc.2 x.2.2.2.2 [] = 1
      · rw [if_pos e1]
        cases hh : x.2.2.1 with
        | none => exact hs
        | some y =>
          obtain ⟨t1, t2, t3, t4⟩ := hok.2.2.1 y hh
          have hv := hL oc List.mem_cons_self
          exact j_off_bd hs ⟨j_val_bd hv t1 t3, j_val_bd hv t2 t4⟩
      · rw [if_neg e1]; exact hs
theorem j_srch_bd {room : Nat} {x : g_Cl} {p : Nat} {F : List j_R} {w : j_W} (hok : cl_ok x) (hF : ∀ r, r ∈ F → r_bd r) (hw : g_bd30 w.1) : g_bd30 (j_srch room x p F w).1.1 := by
  refine j_run_bd hok _ _ (fun oc ho => ?_) hw
  have := j_all_bd hF _ 0 (fun _ => 0) _ (fun i _ hbit => by rw [Nat.zero_testBit] at hbit; cases hbit) oc ho
  rw [Nat.zero_or] at this
  exact this
def j_rnd1 (room : Nat) (F : List j_R) (p : Nat) (z : j_W × Bool) (x : g_Cl) : j_W × Bool := if x.1 = 1 then ((j_srch room x p F z.1).1, z.2 || (j_srch room x p F z.1).2.2.2) else z
def j_rndB (room : Nat) (F : List j_R) (p : Nat) (L : List g_Cl) (z : j_W × Bool) : j_W × Bool := L.foldl (j_rnd1 room F p) z
def j_rndP (room : Nat) (F : List j_R) : Nat → List (List g_Cl) → j_W × Bool → j_W × Bool
  | _, [], z => z
  | p, L :: Ls, z => j_rndP room F (p + 1) Ls (j_rndB room F p L z)
theorem j_orb (a b : Bool) : j_b a ||| j_b b = j_b (a || b) := by cases a <;> cases b <;> decide
section RO
variable {N : Nat} {C : Nat × Nat} {g : ag_H} {re rd un : Int32} {room : Nat} {rv : Nat → Option Nat} {ra : Nat → Nat} {F : List j_R}
theorem c_rnd35 (o : 75 ≤ g.1) (hN : 60 ≤ N) (hra : ra_ok rv ra) (hroom : room ≤ 30) (hFb : ∀ r, r ∈ F → r_bd r) {l p : Nat} (hp : p < 5) {L : List g_Cl} (hL : al_rep jP (cl_rep (46 ≤ ·) g) g l L) (hl : L.length ≤ 10) (hk : ∀ x, x ∈ L → cl_ok x ∧ (x.1 ≠ 0 → 1 ≤ x.2.2.2.1.length) ∧ x.1 ≤ 5) (k2 : Int32 → ag_H → Option (Int32 × ag_H)) : ∀ (xs : List g_Cl) (d i : Nat) (z : j_W × Bool) (tr he mi fa : Int32) (rw : Nat → Nat → Int32) (va sk : Nat → Int32), i + xs.length = L.length → (∀ j, xs[j]? = L[i + j]?) → xs.length < d → fa_rep rw ra z.1.1 → j_pre F z.1.1 → g_bd30 z.1.1 →
    ∃ tr' he' mi' fa' rw' va' sk', fn_Jg_makeRound_35 N C 7 k2 d (Int32.ofNat p) (some l) (Int32.ofNat i) (js g re rd un F.length (j_b z.2) tr he mi fa z.1.1.length (j_b z.1.2) room rv rw va sk) = k2 (Int32.ofNat (p + 1)) (js g re rd un F.length (j_b (j_rndB room F p xs z).2) tr' he' mi' fa' (j_rndB room F p xs z).1.1.length (j_b (j_rndB room F p xs z).1.2) room rv rw' va' sk') ∧ fa_rep rw' ra (j_rndB room F p xs z).1.1 ∧ j_pre F (j_rndB room F p xs z).1.1 ∧ g_bd30 (j_rndB room F p xs z).1.1
  | xs, 0, i, z, tr, he, mi, fa, rw, va, sk, hi, hx, hd, hG, hpr, hbd => absurd hd (by omega)
  | [], d + 1, i, z, tr, he, mi, fa, rw, va, sk, hi, hx, hd, hG, hpr, hbd => by
    simp only [List.length_nil, Nat.add_zero] at hi
    have hal : al_rep jP (cl_rep (46 ≤ ·) g) (js g re rd un F.length (j_b z.2) tr he mi fa z.1.1.length (j_b z.1.2) room rv rw va sk) l L := al_rep_ext (g := g) (Nat.le_refl _) (fun q hq _ => jP_big hq) hL
    refine ⟨tr, he, mi, fa, rw, va, sk, ?_, hG, hpr, hbd⟩
    rw [fe_Jg_makeRound_35, al_rep_rc hal, Option.bind_some, al_rep_size hal, Option.bind_some]
    dsimp only
    rw [if_pos (n_leT (by omega) (by omega)), n_1, n_add]
    rfl
  | x :: xs, d + 1, i, z, tr, he, mi, fa, rw, va, sk, hi, hx, hd, hG, hpr, hbd => by
    simp only [List.length_cons] at hi hd
    have hal : al_rep jP (cl_rep (46 ≤ ·) g) (js g re rd un F.length (j_b z.2) tr he mi fa z.1.1.length (j_b z.1.2) room rv rw va sk) l L := al_rep_ext (g := g) (Nat.le_refl _) (fun q hq _ => jP_big hq) hL
    have hget : L[i]? = some x := by
      have := hx 0
      rw [Nat.add_zero] at this
      rw [← this]; rfl
    have hxs : ∀ j, xs[j]? = L[i + 1 + j]? := fun j => by
      have := hx (j + 1)
      rw [show i + (j + 1) = i + 1 + j by omega] at this
      rw [← this]; rfl
    obtain ⟨a, ha1, ha2⟩ := al_rep_get (N := N) (C := C) hal hget
    have hcl := ha2
    obtain ⟨p1, p2, p3, r, bl, sa, sv, e1, e2, e3, e4, e5, e6, e7, e8⟩ := ha2
    have ea : ag_at (js g re rd un F.length (j_b z.2) tr he mi fa z.1.1.length (j_b z.1.2) room rv rw va sk) (.ref a) = some (.inr (7, [.int (Int32.ofNat x.1), .int (if x.2.1 = true then Int32.ofInt 1 else Int32.ofInt 0), ag_rf r, .ref bl, .ref sa])) := pu_at p2 p3 ((js_big (Or.inl p1)).trans e1)
    obtain ⟨hok, hb1, hk5⟩ := hk x (List.mem_of_getElem? hget)
    rw [fe_Jg_makeRound_35, al_rep_rc hal, Option.bind_some, al_rep_size hal, Option.bind_some]
    dsimp only
    rw [if_neg (n_leF (by omega) (by omega)), al_rep_rc hal, Option.bind_some, ha1, Option.bind_some]
    dsimp only
    rw [if_pos (pu_ck ea), pu_gi (k := 0) ea rfl, Option.bind_some]
    unfold fn_Jg_makeRound_86
    have step : ∀ z1, j_rnd1 room F p z x = z1 → j_rndB room F p (x :: xs) z = j_rndB room F p xs z1 := fun z1 q => by
      show j_rndB room F p xs (j_rnd1 room F p z x) = _
      rw [q]
    by_cases e0 : x.1 = 1
    · obtain ⟨rw1, va1, sk1, k1, kG, kp⟩ := c_search (N := N) (C := C) (re := re) (rd := rd) (un := un) (rf := j_b z.2) (tr := tr) (he := he) (mi := mi) (fa := fa) (va := va) (sk := sk) o hN hra hroom hcl hok (hb1 (by omega)) hFb hG hpr p
      unfold jst at k1
      rw [if_pos (show Int32.ofNat x.1 = Int32.ofInt 1 by rw [e0]; rfl), js_rc7 o, Option.bind_some, k1, Option.bind_some]
      dsimp only
      rw [js_g7_9 o, Option.bind_some, js_g7_13 o, Option.bind_some, j_orb, js_p7_9 o (j_b01 _), Option.bind_some, n_1, n_add]
      have hst : j_rnd1 room F p z x = ((j_srch room x p F z.1).1, z.2 || (j_srch room x p F z.1).2.2.2) := if_pos e0
      rw [step _ hst]
      exact c_rnd35 o hN hra hroom hFb hp hL hl hk k2 xs d (i + 1) ((j_srch room x p F z.1).1, z.2 || (j_srch room x p F z.1).2.2.2) _ _ _ _ rw1 va1 sk1 (by omega) hxs (by omega) kG kp (j_srch_bd hok hFb hbd)
    · rw [if_neg (show ¬ Int32.ofNat x.1 = Int32.ofInt 1 from n_eqF (b := 1) e0 (by omega) (by omega)), n_1, n_add, step z (if_neg e0)]
      exact c_rnd35 o hN hra hroom hFb hp hL hl hk k2 xs d (i + 1) z tr he mi fa rw va sk (by omega) hxs (by omega) hG hpr hbd
theorem c_rnd18 (o : 75 ≤ g.1) (hN : 60 ≤ N) (hra : ra_ok rv ra) (hroom : room ≤ 30) (hFb : ∀ r, r ∈ F → r_bd r) {Ps : List (List g_Cl)} (hP : pl_rep g Ps) : ∀ (Qs : List (List g_Cl)) (d p : Nat) (z : j_W × Bool) (tr he mi fa : Int32) (rw : Nat → Nat → Int32) (va sk : Nat → Int32), p + Qs.length = 5 → (∀ j, Qs[j]? = Ps[p + j]?) → Qs.length < d → fa_rep rw ra z.1.1 → j_pre F z.1.1 → g_bd30 z.1.1 →
    ∃ tr' he' mi' fa' rw' va' sk', fn_Jg_makeRound_18 N C 7 d (Int32.ofNat p) (js g re rd un F.length (j_b z.2) tr he mi fa z.1.1.length (j_b z.1.2) room rv rw va sk) = some (0, js g re rd un F.length (j_b (j_rndP room F p Qs z).2) tr' he' mi' fa' (j_rndP room F p Qs z).1.1.length (j_b (j_rndP room F p Qs z).1.2) room rv rw' va' sk') ∧ fa_rep rw' ra (j_rndP room F p Qs z).1.1 ∧ j_pre F (j_rndP room F p Qs z).1.1 ∧ g_bd30 (j_rndP room F p Qs z).1.1
  | Qs, 0, p, z, tr, he, mi, fa, rw, va, sk, hp, hq, hd, hG, hpr, hbd => absurd hd (by omega)
  | [], d + 1, p, z, tr, he, mi, fa, rw, va, sk, hp, hq, hd, hG, hpr, hbd => by
    simp only [List.length_nil, Nat.add_zero] at hp
    refine ⟨tr, he, mi, fa, rw, va, sk, ?_, hG, hpr, hbd⟩
    rw [fe_Jg_makeRound_18, n_5, if_pos (n_leT (by omega) (by omega))]
    rfl
  | L :: Qs, d + 1, p, z, tr, he, mi, fa, rw, va, sk, hp, hq, hd, hG, hpr, hbd => by
    simp only [List.length_cons] at hp hd
    obtain ⟨h5, pv, hpv, hall⟩ := hP
    have hget : Ps[p]? = some L := by
      have := hq 0
      rw [Nat.add_zero] at this
      rw [← this]; rfl
    have hqs : ∀ j, Qs[j]? = Ps[p + 1 + j]? := fun j => by
      have := hq (j + 1)
      rw [show p + (j + 1) = p + 1 + j by omega] at this
      rw [← this]; rfl
    obtain ⟨b, l, hb1, hb2, hb3, hb4, hb5, hb6, hb7, hb8⟩ := hall p L hget
    rw [fe_Jg_makeRound_18, n_5, if_neg (n_leF (by omega) (by omega)), js_r7_2 o, Option.bind_some, js_43 o hpv, Option.bind_some, if_pos (show md_in (Int32.ofNat p) 5 = true by rw [n_in (by omega)]; omega), n_nat (by omega)]
    dsimp only
    rw [hb1, js_blk hb2 hb3 hb4 hb5, Option.bind_some, n_0]
    obtain ⟨tr1, he1, mi1, fa1, rw1, va1, sk1, k1, k2, k3, k4⟩ := c_rnd35 (N := N) (C := C) (re := re) (rd := rd) (un := un) o hN hra hroom hFb (show p < 5 by omega) hb6 hb7 (fun x hx => ⟨(hb8 x hx).1, (hb8 x hx).2.2.1, (hb8 x hx).2.2.2.1⟩) (fn_Jg_makeRound_18 N C 7 d) L N 0 z tr he mi fa rw va sk (by omega) (fun j => by rw [Nat.zero_add]) (by omega) hG hpr hbd
    rw [k1]
    exact c_rnd18 o hN hra hroom hFb ⟨h5, pv, hpv, hall⟩ Qs d (p + 1) _ tr1 he1 mi1 fa1 rw1 va1 sk1 (by omega) hqs (by omega) k2 k3 k4
theorem c_round (o : 75 ≤ g.1) (hN : 60 ≤ N) (hra : ra_ok rv ra) (hroom : room ≤ 30) {Ps : List (List g_Cl)} (hP : pl_rep g Ps) {w : j_W} {kn : Nat} {rf tr he mi fa : Int32} {rw : Nat → Nat → Int32} {va sk : Nat → Int32} (hG : fa_rep rw ra w.1) (hbd : g_bd30 w.1) :
    ∃ tr' he' mi' fa' rw' va' sk', fn_Jg_makeRound N C 7 (js g re rd un kn rf tr he mi fa w.1.length (j_b w.2) room rv rw va sk) = some (0, js g re rd un w.1.length (j_b (j_rndP room w.1 0 Ps (w, false)).2) tr' he' mi' fa' (j_rndP room w.1 0 Ps (w, false)).1.1.length (j_b (j_rndP room w.1 0 Ps (w, false)).1.2) room rv rw' va' sk') ∧ fa_rep rw' ra (j_rndP room w.1 0 Ps (w, false)).1.1 ∧ j_pre w.1 (j_rndP room w.1 0 Ps (w, false)).1.1 ∧ g_bd30 (j_rndP room w.1 0 Ps (w, false)).1.1 := by
  unfold fn_Jg_makeRound fn_Jg_makeRound_0
  rw [js_r7_0 o, Option.bind_some, js_g8_1 o, Option.bind_some, js_p7_8 o, Option.bind_some, js_p7_9 o n_b0, Option.bind_some, n_0]
  exact c_rnd18 (F := w.1) o hN hra hroom hbd hP Ps N 0 (w, false) tr he mi fa rw va sk (by rw [hP.1]) (fun j => by rw [Nat.zero_add]) (by rw [hP.1]; omega) hG ⟨Nat.le_refl _, fun _ _ h => h⟩ hbd
/-- rounds until one gives nothing new, or a limit comes first -/
def j_set (room : Nat) (Ps : List (List g_Cl)) : Nat → j_W → Nat → Bool → Bool × j_W × Nat × Bool
  | 0, w, n, f => (false, w, n, f)
  | k + 1, w, n, f => if w.2 = true then (false, w, n, f) else if (j_rndP room w.1 0 Ps (w, false)).1.1.length = w.1.length ∧ (j_rndP room w.1 0 Ps (w, false)).1.2 = false then (true, (j_rndP room w.1 0 Ps (w, false)).1, n + 1, (j_rndP room w.1 0 Ps (w, false)).2) else j_set room Ps k (j_rndP room w.1 0 Ps (w, false)).1 (n + 1) (j_rndP room w.1 0 Ps (w, false)).2
theorem c_set6 (o : 75 ≤ g.1) (hN : 60 ≤ N) (hra : ra_ok rv ra) (hroom : room ≤ 30) {Ps : List (List g_Cl)} (hP : pl_rep g Ps) {more : Nat} (hmo : more ≤ 12) : ∀ (k d i n : Nat) (w : j_W) (f : Bool) (kn : Nat) (tr he mi fa : Int32) (rw : Nat → Nat → Int32) (va sk : Nat → Int32), i + k = more → k < d → n ≤ i → fa_rep rw ra w.1 → g_bd30 w.1 →
    ∃ kn' tr' he' mi' fa' rw' va' sk', fn_Jg_settle_6 N C 7 d (Int32.ofNat more) (Int32.ofNat i) (js g re (Int32.ofNat n) un kn (j_b f) tr he mi fa w.1.length (j_b w.2) room rv rw va sk) = some (j_b (j_set room Ps k w n f).1, js g re (Int32.ofNat (j_set room Ps k w n f).2.2.1) un kn' (j_b (j_set room Ps k w n f).2.2.2) tr' he' mi' fa' (j_set room Ps k w n f).2.1.1.length (j_b (j_set room Ps k w n f).2.1.2) room rv rw' va' sk') ∧ fa_rep rw' ra (j_set room Ps k w n f).2.1.1 ∧ g_bd30 (j_set room Ps k w n f).2.1.1 ∧ ((j_set room Ps k w n f).1 = true → kn' = (j_set room Ps k w n f).2.1.1.length)
  | k, 0, i, n, w, f, kn, tr, he, mi, fa, rw, va, sk, hi, hd, hn, hG, hbd => absurd hd (by omega)
  | 0, d + 1, i, n, w, f, kn, tr, he, mi, fa, rw, va, sk, hi, hd, hn, hG, hbd => by
    refine ⟨kn, tr, he, mi, fa, rw, va, sk, ?_, hG, hbd, fun q => by cases q⟩
    rw [fe_Jg_settle_6, if_pos (n_leT (by omega) (by omega))]
    unfold fn_Jg_settle_67
    rw [if_pos n_b0]
    rfl
  | k + 1, d + 1, i, n, w, f, kn, tr, he, mi, fa, rw, va, sk, hi, hd, hn, hG, hbd => by
    have hG30 := hG.1
    rw [fe_Jg_settle_6, if_neg (n_leF (by omega) (by omega)), js_r7_0 o, Option.bind_some, js_g8_2 o, Option.bind_some]
    unfold fn_Jg_settle_67 j_set
    by_cases eo : w.2 = true
    · rw [if_pos eo, eo, if_neg (by decide), if_pos n_b0]
      refine ⟨kn, tr, he, mi, fa, rw, va, sk, ?_, hG, hbd, fun q => by cases q⟩
      rfl
    · have eo' : w.2 = false := by simpa using eo
      obtain ⟨tr1, he1, mi1, fa1, rw1, va1, sk1, k1, k2, k3, k4⟩ := c_round (N := N) (C := C) (re := re) (rd := Int32.ofNat n) (un := un) (kn := kn) (rf := j_b f) (tr := tr) (he := he) (mi := mi) (fa := fa) (va := va) (sk := sk) o hN hra hroom hP hG hbd
      have hz30 := k2.1
      rw [if_neg eo, if_pos (show j_b w.2 = 0 by rw [eo']; rfl), js_rc7 o, Option.bind_some, k1, Option.bind_some]
      dsimp only
      rw [js_g7_4 o, Option.bind_some, n_1, n_add, js_p7_4 o, Option.bind_some, js_r7_0 o, Option.bind_some, js_g8_1 o, Option.bind_some, js_g7_8 o, Option.bind_some]
      unfold fn_Jg_settle_61
      have go : ∃ kn' tr' he' mi' fa' rw' va' sk', fn_Jg_settle_6 N C 7 d (Int32.ofNat more) (Int32.ofNat i + Int32.ofNat 1) (js g re (Int32.ofNat (n + 1)) un w.1.length (j_b (j_rndP room w.1 0 Ps (w, false)).2) tr1 he1 mi1 fa1 (j_rndP room w.1 0 Ps (w, false)).1.1.length (j_b (j_rndP room w.1 0 Ps (w, false)).1.2) room rv rw1 va1 sk1) = some (j_b (j_set room Ps k (j_rndP room w.1 0 Ps (w, false)).1 (n + 1) (j_rndP room w.1 0 Ps (w, false)).2).1, js g re (Int32.ofNat (j_set room Ps k (j_rndP room w.1 0 Ps (w, false)).1 (n + 1) (j_rndP room w.1 0 Ps (w, false)).2).2.2.1) un kn' (j_b (j_set room Ps k (j_rndP room w.1 0 Ps (w, false)).1 (n + 1) (j_rndP room w.1 0 Ps (w, false)).2).2.2.2) tr' he' mi' fa' (j_set room Ps k (j_rndP room w.1 0 Ps (w, false)).1 (n + 1) (j_rndP room w.1 0 Ps (w, false)).2).2.1.1.length (j_b (j_set room Ps k (j_rndP room w.1 0 Ps (w, false)).1 (n + 1) (j_rndP room w.1 0 Ps (w, false)).2).2.1.2) room rv rw' va' sk') ∧ fa_rep rw' ra (j_set room Ps k (j_rndP room w.1 0 Ps (w, false)).1 (n + 1) (j_rndP room w.1 0 Ps (w, false)).2).2.1.1 ∧ g_bd30 (j_set room Ps k (j_rndP room w.1 0 Ps (w, false)).1 (n + 1) (j_rndP room w.1 0 Ps (w, false)).2).2.1.1 ∧ ((j_set room Ps k (j_rndP room w.1 0 Ps (w, false)).1 (n + 1) (j_rndP room w.1 0 Ps (w, false)).2).1 = true → kn' = (j_set room Ps k (j_rndP room w.1 0 Ps (w, false)).1 (n + 1) (j_rndP room w.1 0 Ps (w, false)).2).2.1.1.length) := by
        rw [n_add]
        exact c_set6 o hN hra hroom hP hmo k d (i + 1) (n + 1) (j_rndP room w.1 0 Ps (w, false)).1 (j_rndP room w.1 0 Ps (w, false)).2 w.1.length tr1 he1 mi1 fa1 rw1 va1 sk1 (by omega) (by omega) (by omega) k2 k4
      by_cases e1 : (j_rndP room w.1 0 Ps (w, false)).1.1.length = w.1.length
      · rw [if_pos (n_eqT e1), Option.bind_some, js_g8_2 o, Option.bind_some]
        by_cases e2 : (j_rndP room w.1 0 Ps (w, false)).1.2 = false
        · rw [if_pos (show j_b (j_rndP room w.1 0 Ps (w, false)).1.2 = 0 by rw [e2]; rfl), if_pos (show md_01 (Int32.ofNat 1) = true from rfl), if_pos ⟨e1, e2⟩]
          exact ⟨w.1.length, tr1, he1, mi1, fa1, rw1, va1, sk1, rfl, k2, k4, fun _ => e1.symm⟩
        · have e2' : (j_rndP room w.1 0 Ps (w, false)).1.2 = true := by simpa using e2
          rw [if_neg (show ¬ j_b (j_rndP room w.1 0 Ps (w, false)).1.2 = 0 by rw [e2']; decide), if_neg (fun q => e2 q.2)]
          exact go
      · rw [if_neg (n_eqF e1 (by omega) (by omega)), if_neg (fun q => e1 q.1)]
        exact go
end RO
