/-! ### Checks, policies, the verdict -/
theorem j_run_hd {room : Nat} {x : g_Cl} (h : x.2.2.1 = none) : ∀ (L : List (Int32 × (Nat → Int32))) (s : j_S), (j_run room x L s).1 = s.1
  | [], s => rfl
  | oc :: L, s => by
    show (j_run room x L (j_fing room x s oc)).1 = s.1
    rw [j_run_hd h L]
    unfold j_fing
    by_cases e : s.1.2 = true
    · rw [if_pos e]
    · rw [if_neg e]
      unfold j_fin
      by_cases e1 : j_wk oc.2 x.2.2.2.2 [] = 1
      · rw [if_pos e1, h]
      · rw [if_neg e1]
theorem j_srch_hd {room : Nat} {x : g_Cl} (h : x.2.2.1 = none) (p : Nat) (F : List j_R) (w : j_W) : (j_srch room x p F w).1 = w := j_run_hd h _ _
/-- errors, the number of the check, the marks -/
abbrev j_K : Type := Bool × Nat × Int32
def j_ful (s : j_S) (k : Nat) : Bool := s.2.1 && (decide (k = 2) || !s.2.2.1)
def j_chk1 (room : Nat) (F : List j_R) (w : j_W) (p : Nat) (z : j_K) (x : g_Cl) : j_K := if x.1 = 2 ∨ x.1 = 3 then (z.1 || (j_srch room x p F w).2.2.2, z.2.1 + 1, if j_ful (j_srch room x p F w) x.1 = false ∧ z.2.1 < 31 then z.2.2 ||| (Int32.ofInt 1 <<< (Int32.ofNat z.2.1 &&& 31)) else z.2.2) else z
def j_chkB (room : Nat) (F : List j_R) (w : j_W) (p : Nat) (L : List g_Cl) (z : j_K) : j_K := L.foldl (j_chk1 room F w p) z
def j_chkP (room : Nat) (F : List j_R) (w : j_W) : Nat → List (List g_Cl) → j_K → j_K
  | _, [], z => z
  | p, L :: Ls, z => j_chkP room F w (p + 1) Ls (j_chkB room F w p L z)
def j_pol (room : Nat) (F : List j_R) (w : j_W) : List g_Cl → Nat → Int32
  | [], _ => (Int8.ofInt (-6)).toInt32
  | x :: xs, n => if x.1 = 4 ∨ x.1 = 5 then (if (j_srch room x 4 F w).2.2.2 = true then (Int8.ofInt (-3)).toInt32 else if (j_srch room x 4 F w).2.1 = true then (if x.1 = 4 then Int32.ofNat n else (Int8.ofInt (-5)).toInt32) else j_pol room F w xs (n + 1)) else j_pol room F w xs n
section VE
variable {N : Nat} {C : Nat × Nat} {g : ag_H} {re rd rf : Int32} {room : Nat} {rv : Nat → Option Nat} {ra : Nat → Nat} {F : List j_R} {w : j_W}
theorem c_chk25 (o : 75 ≤ g.1) (hN : 60 ≤ N) (hra : ra_ok rv ra) (hroom : room ≤ 30) (hFb : ∀ r, r ∈ F → r_bd r) {l p : Nat} (hp : p < 5) {L : List g_Cl} (hL : al_rep jP (cl_rep (46 ≤ ·) g) g l L) (hl : L.length ≤ 10) (hk : ∀ x, x ∈ L → cl_ok x ∧ (x.1 ≠ 0 → 1 ≤ x.2.2.2.1.length) ∧ x.1 ≤ 5 ∧ (2 ≤ x.1 → x.2.2.1 = none)) (hpr : j_pre F w.1) (k2 : Int32 → Int32 → Int32 → ag_H → Option (Int32 × ag_H)) : ∀ (xs : List g_Cl) (d i : Nat) (z : j_K) (tr he mi fa : Int32) (rw : Nat → Nat → Int32) (va sk : Nat → Int32), i + xs.length = L.length → (∀ j, xs[j]? = L[i + j]?) → xs.length < d → z.2.1 + xs.length ≤ 1000 → fa_rep rw ra w.1 →
    ∃ tr' he' mi' fa' rw' va' sk', fn_Jg_lookAtChecks_25 N C 7 k2 d (j_b z.1) (Int32.ofNat z.2.1) (Int32.ofNat p) (some l) (Int32.ofNat i) (js g re rd z.2.2 F.length rf tr he mi fa w.1.length (j_b w.2) room rv rw va sk) = k2 (j_b (j_chkB room F w p xs z).1) (Int32.ofNat (j_chkB room F w p xs z).2.1) (Int32.ofNat (p + 1)) (js g re rd (j_chkB room F w p xs z).2.2 F.length rf tr' he' mi' fa' w.1.length (j_b w.2) room rv rw' va' sk') ∧ fa_rep rw' ra w.1 ∧ (j_chkB room F w p xs z).2.1 ≤ z.2.1 + xs.length
  | xs, 0, i, z, tr, he, mi, fa, rw, va, sk, hi, hx, hd, hz, hG => absurd hd (by omega)
  | [], d + 1, i, z, tr, he, mi, fa, rw, va, sk, hi, hx, hd, hz, hG => by
    simp only [List.length_nil, Nat.add_zero] at hi
    have hal : al_rep jP (cl_rep (46 ≤ ·) g) (js g re rd z.2.2 F.length rf tr he mi fa w.1.length (j_b w.2) room rv rw va sk) l L := al_rep_ext (g := g) (Nat.le_refl _) (fun q hq _ => jP_big hq) hL
    refine ⟨tr, he, mi, fa, rw, va, sk, ?_, hG, Nat.le_add_right _ _⟩
    rw [fe_Jg_lookAtChecks_25, al_rep_rc hal, Option.bind_some, al_rep_size hal, Option.bind_some]
    dsimp only
    rw [if_pos (n_leT (by omega) (by omega)), n_1, n_add]
    rfl
  | x :: xs, d + 1, i, z, tr, he, mi, fa, rw, va, sk, hi, hx, hd, hz, hG => by
    simp only [List.length_cons] at hi hd hz
    have hal : al_rep jP (cl_rep (46 ≤ ·) g) (js g re rd z.2.2 F.length rf tr he mi fa w.1.length (j_b w.2) room rv rw va sk) l L := al_rep_ext (g := g) (Nat.le_refl _) (fun q hq _ => jP_big hq) hL
    have hget : L[i]? = some x := by
      have := hx 0
      rw [Nat.add_zero] at this
      rw [← this]; rfl
    have hxs : ∀ j, xs[j]? = L[i + 1 + j]? := fun j => by
      have := hx (j + 1)
      rw [show i + (j + 1) = i + 1 + j by omega] at this
      rw [← this]; rfl
    obtain ⟨a, ha1, ha2⟩ := al_rep_get (N := N) (C := C) hal hget
    have hcl := ha2
    obtain ⟨p1, p2, p3, r, bl, sa, sv, e1, e2, e3, e4, e5, e6, e7, e8⟩ := ha2
    have ea : ∀ un kn rf tr he mi fa sz ov rw va sk, ag_at (js g re rd un kn rf tr he mi fa sz ov room rv rw va sk) (.ref a) = some (.inr (7, [.int (Int32.ofNat x.1), .int (if x.2.1 = true then Int32.ofInt 1 else Int32.ofInt 0), ag_rf r, .ref bl, .ref sa])) := fun un kn rf tr he mi fa sz ov rw va sk => pu_at p2 p3 ((js_big (Or.inl p1)).trans e1)
    obtain ⟨hok, hb1, hk5, hk2⟩ := hk x (List.mem_of_getElem? hget)
    rw [fe_Jg_lookAtChecks_25, al_rep_rc hal, Option.bind_some, al_rep_size hal, Option.bind_some]
    dsimp only
    rw [if_neg (n_leF (by omega) (by omega)), al_rep_rc hal, Option.bind_some, ha1, Option.bind_some]
    dsimp only
    rw [if_pos (pu_ck (ea _ _ _ _ _ _ _ _ _ _ _ _)), pu_gi (k := 0) (ea _ _ _ _ _ _ _ _ _ _ _ _) rfl, Option.bind_some]
    have step : ∀ z1, j_chk1 room F w p z x = z1 → j_chkB room F w p (x :: xs) z = j_chkB room F w p xs z1 := fun z1 q => by
      show j_chkB room F w p xs (j_chk1 room F w p z x) = _
      rw [q]
    have do72 : x.1 = 2 ∨ x.1 = 3 → ∃ tr' he' mi' fa' rw' va' sk', fn_Jg_lookAtChecks_72 N C 7 k2 (fn_Jg_lookAtChecks_25 N C 7 k2 d) (j_b z.1) (Int32.ofNat z.2.1) (Int32.ofNat p) (some l) (Int32.ofNat i) (some a) (js g re rd z.2.2 F.length rf tr he mi fa w.1.length (j_b w.2) room rv rw va sk) = k2 (j_b (j_chkB room F w p (x :: xs) z).1) (Int32.ofNat (j_chkB room F w p (x :: xs) z).2.1) (Int32.ofNat (p + 1)) (js g re rd (j_chkB room F w p (x :: xs) z).2.2 F.length rf tr' he' mi' fa' w.1.length (j_b w.2) room rv rw' va' sk') ∧ fa_rep rw' ra w.1 ∧ (j_chkB room F w p (x :: xs) z).2.1 ≤ z.2.1 + (xs.length + 1) := by
      intro hx23
      have hhd := hk2 (by omega)
      obtain ⟨rw1, va1, sk1, k1, kG, kp⟩ := c_search (N := N) (C := C) (re := re) (rd := rd) (un := z.2.2) (rf := rf) (tr := tr) (he := he) (mi := mi) (fa := fa) (va := va) (sk := sk) o hN hra hroom hcl hok (hb1 (by omega)) hFb hG hpr p
      unfold jst at k1
      rw [j_srch_hd hhd] at k1 kG
      unfold fn_Jg_lookAtChecks_72
      rw [js_rc7 o, Option.bind_some, k1, Option.bind_some]
      dsimp only
      rw [js_g7_13 o, Option.bind_some, js_g7_11 o, Option.bind_some, j_orb]
      have fin : ∀ (fb : Bool), j_ful (j_srch room x p F w) x.1 = fb → ∃ tr' he' mi' fa' rw' va' sk', fn_Jg_lookAtChecks_114 N C 7 k2 (fn_Jg_lookAtChecks_25 N C 7 k2 d) (j_b (z.1 || (j_srch room x p F w).2.2.2)) (Int32.ofNat z.2.1) (Int32.ofNat p) (some l) (Int32.ofNat i) (j_b fb) (js g re rd z.2.2 F.length rf (j_tr p x.2.1) (j_b (j_srch room x p F w).2.1) (j_b (j_srch room x p F w).2.2.1) (j_b (j_srch room x p F w).2.2.2) w.1.length (j_b w.2) room rv rw1 va1 sk1) = k2 (j_b (j_chkB room F w p (x :: xs) z).1) (Int32.ofNat (j_chkB room F w p (x :: xs) z).2.1) (Int32.ofNat (p + 1)) (js g re rd (j_chkB room F w p (x :: xs) z).2.2 F.length rf tr' he' mi' fa' w.1.length (j_b w.2) room rv rw' va' sk') ∧ fa_rep rw' ra w.1 ∧ (j_chkB room F w p (x :: xs) z).2.1 ≤ z.2.1 + (xs.length + 1) := by
        intro fb hfb
        unfold fn_Jg_lookAtChecks_114 fn_Jg_lookAtChecks_139 fn_Jg_lookAtChecks_142
        have ad1 : ∀ q : Nat, Int32.ofNat q + Int32.ofInt 1 = Int32.ofNat (q + 1) := fun q => by rw [n_1, n_add]
        rw [ad1, ad1]
        have hz1 : j_chk1 room F w p z x = (z.1 || (j_srch room x p F w).2.2.2, z.2.1 + 1, if fb = false ∧ z.2.1 < 31 then z.2.2 ||| (Int32.ofInt 1 <<< (Int32.ofNat z.2.1 &&& 31)) else z.2.2) := by
          unfold j_chk1
          rw [if_pos hx23, hfb]
        rw [step _ hz1]
        have rcs : ∀ un', (if fb = false ∧ z.2.1 < 31 then z.2.2 ||| (Int32.ofInt 1 <<< (Int32.ofNat z.2.1 &&& 31)) else z.2.2) = un' → ∃ tr' he' mi' fa' rw' va' sk', fn_Jg_lookAtChecks_25 N C 7 k2 d (j_b (z.1 || (j_srch room x p F w).2.2.2)) (Int32.ofNat (z.2.1 + 1)) (Int32.ofNat p) (some l) (Int32.ofNat (i + 1)) (js g re rd un' F.length rf (j_tr p x.2.1) (j_b (j_srch room x p F w).2.1) (j_b (j_srch room x p F w).2.2.1) (j_b (j_srch room x p F w).2.2.2) w.1.length (j_b w.2) room rv rw1 va1 sk1) = k2 (j_b (j_chkB room F w p xs (z.1 || (j_srch room x p F w).2.2.2, z.2.1 + 1, if fb = false ∧ z.2.1 < 31 then z.2.2 ||| (Int32.ofInt 1 <<< (Int32.ofNat z.2.1 &&& 31)) else z.2.2)).1) (Int32.ofNat (j_chkB room F w p xs (z.1 || (j_srch room x p F w).2.2.2, z.2.1 + 1, if fb = false ∧ z.2.1 < 31 then z.2.2 ||| (Int32.ofInt 1 <<< (Int32.ofNat z.2.1 &&& 31)) else z.2.2)).2.1) (Int32.ofNat (p + 1)) (js g re rd (j_chkB room F w p xs (z.1 || (j_srch room x p F w).2.2.2, z.2.1 + 1, if fb = false ∧ z.2.1 < 31 then z.2.2 ||| (Int32.ofInt 1 <<< (Int32.ofNat z.2.1 &&& 31)) else z.2.2)).2.2 F.length rf tr' he' mi' fa' w.1.length (j_b w.2) room rv rw' va' sk') ∧ fa_rep rw' ra w.1 ∧ (j_chkB room F w p xs (z.1 || (j_srch room x p F w).2.2.2, z.2.1 + 1, if fb = false ∧ z.2.1 < 31 then z.2.2 ||| (Int32.ofInt 1 <<< (Int32.ofNat z.2.1 &&& 31)) else z.2.2)).2.1 ≤ z.2.1 + (xs.length + 1) := by
          intro un' hu
          rw [hu]
          obtain ⟨t1, t2, t3, t4, t5, t6, t7, c1, c2, c3⟩ := c_chk25 o hN hra hroom hFb hp hL hl hk hpr k2 xs d (i + 1) (z.1 || (j_srch room x p F w).2.2.2, z.2.1 + 1, un') (j_tr p x.2.1) (j_b (j_srch room x p F w).2.1) (j_b (j_srch room x p F w).2.2.1) (j_b (j_srch room x p F w).2.2.2) rw1 va1 sk1 (by omega) hxs (by omega) (by show z.2.1 + 1 + xs.length ≤ 1000; omega) kG
          exact ⟨t1, t2, t3, t4, t5, t6, t7, c1, c2, Nat.le_trans c3 (by show z.2.1 + 1 + xs.length ≤ _; omega)⟩
        cases fb with
        | true =>
          rw [if_neg (by decide)]
          exact rcs z.2.2 (if_neg (fun q => by cases q.1))
        | false =>
          rw [if_pos (by decide), n_c31]
          by_cases e31 : z.2.1 < 31
          · rw [if_neg (n_leF e31 (by omega)), js_g7_5 o, Option.bind_some, js_p7_5 o, Option.bind_some]
            exact rcs _ (if_pos ⟨rfl, e31⟩)
          · rw [if_pos (n_leT (by omega) (by omega))]
            exact rcs z.2.2 (if_neg (fun q => e31 q.2))
      unfold fn_Jg_lookAtChecks_113 fn_Jg_lookAtChecks_109
      by_cases eh : (j_srch room x p F w).2.1 = true
      · rw [if_neg (show ¬ j_b (j_srch room x p F w).2.1 = 0 by rw [eh]; decide), pu_gi (k := 0) (ea _ _ _ _ _ _ _ _ _ _ _ _) rfl, Option.bind_some]
        by_cases ek : x.1 = 2
        · rw [if_pos (show Int32.ofNat x.1 = Int32.ofInt 2 by rw [ek]; rfl)]
          exact fin true (by unfold j_ful; rw [eh, ek]; rfl)
        · rw [if_neg (show ¬ Int32.ofNat x.1 = Int32.ofInt 2 from n_eqF (b := 2) ek (by omega) (by omega)), js_g7_12 o, Option.bind_some]
          by_cases em : (j_srch room x p F w).2.2.1 = true
          · rw [if_neg (show ¬ j_b (j_srch room x p F w).2.2.1 = 0 by rw [em]; decide)]
            exact fin false (by unfold j_ful; rw [em]; simp [ek])
          · have em' : (j_srch room x p F w).2.2.1 = false := by simpa using em
            rw [if_pos (show j_b (j_srch room x p F w).2.2.1 = 0 by rw [em']; rfl)]
            exact fin true (by unfold j_ful; rw [eh, em']; simp)
      · have eh' : (j_srch room x p F w).2.1 = false := by simpa using eh
        rw [if_pos (show j_b (j_srch room x p F w).2.1 = 0 by rw [eh']; rfl)]
        exact fin false (by unfold j_ful; rw [eh']; rfl)
    by_cases e2k : x.1 = 2
    · rw [if_pos (show Int32.ofNat x.1 = Int32.ofInt 2 by rw [e2k]; rfl)]
      exact do72 (Or.inl e2k)
    · rw [if_neg (show ¬ Int32.ofNat x.1 = Int32.ofInt 2 from n_eqF (b := 2) e2k (by omega) (by omega)), Option.bind_some]
      by_cases e3k : x.1 = 3
      · rw [if_pos (show Int32.ofNat x.1 = Int32.ofInt 3 by rw [e3k]; rfl)]
        exact do72 (Or.inr e3k)
      · rw [if_neg (show ¬ Int32.ofNat x.1 = Int32.ofInt 3 from n_eqF (b := 3) e3k (by omega) (by omega))]
        unfold fn_Jg_lookAtChecks_142
        rw [n_1, n_add, step z (if_neg (by omega))]
        obtain ⟨t1, t2, t3, t4, t5, t6, t7, c1, c2, c3⟩ := c_chk25 o hN hra hroom hFb hp hL hl hk hpr k2 xs d (i + 1) z tr he mi fa rw va sk (by omega) hxs (by omega) (by omega) hG
        exact ⟨t1, t2, t3, t4, t5, t6, t7, c1, c2, Nat.le_trans c3 (by simp only [List.length_cons]; omega)⟩
end VE
