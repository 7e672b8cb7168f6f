/-! ### The places; facts are laid; a search -/
def jP (q : Nat) : Prop := 46 ≤ q ∨ (41 ≤ q ∧ q ≤ 43)
def pl_rep (g : ag_H) (Ps : List (List g_Cl)) : Prop := Ps.length = 5 ∧ ∃ pv : Nat → Option Nat, g.2.2 43 = .inl (5, 5, .inr (.inr (.inr (.inr pv)))) ∧ ∀ (i : Nat) (L : List g_Cl), Ps[i]? = some L → ∃ b l, pv i = some b ∧ jP b ∧ 2 ≤ b ∧ b < g.1 ∧ g.2.2 b = .inr (5, [.ref l]) ∧ al_rep jP (cl_rep (46 ≤ ·) g) g l L ∧ L.length ≤ 10 ∧ ∀ x, x ∈ L → cl_ok x ∧ (x.1 = 0 → ∃ y, x.2.2.1 = some y) ∧ (x.1 ≠ 0 → 1 ≤ x.2.2.2.1.length) ∧ x.1 ≤ 5 ∧ (2 ≤ x.1 → x.2.2.1 = none)
theorem pu_ao5 {h : ag_H} {e n t : Nat} {f : Nat → Option Nat} (ht : t = 4 ∨ t = 5 ∨ t = 6) (h2 : ag_at h (.ref e) = some (.inl (t, n, .inr (.inr (.inr (.inr f)))))) : ag_ao h (some e) = some (n, f) := by
  unfold ag_ao
  have : ag_at h (ag_rf (some e)) = some (.inl (t, n, .inr (.inr (.inr (.inr f))))) := h2
  simp only [this]
  rw [if_pos ht]
def j_own (p : Nat) : Int32 := Int32.ofInt 1 <<< (Int32.ofNat p &&& 31)
def j_tr (p : Nat) (st : Bool) : Int32 := ((Int8.ofInt (17)).toInt32 ||| j_own p) ||| (if st = true then j_own p - Int32.ofInt 1 else Int32.ofInt 0)
abbrev j_W : Type := List j_R × Bool
def j_lay1 (room p : Nat) (w : j_W) (x : g_Cl) : j_W := if x.1 = 0 then (match x.2.2.1 with
  | some y => j_off room (Int32.ofNat y.1, Int32.ofNat y.2.1, Int32.ofInt y.2.2.1, Int32.ofInt y.2.2.2, j_own p) w.1 w.2
  | none => w) else w
def j_layB (room p : Nat) (L : List g_Cl) (w : j_W) : j_W := L.foldl (j_lay1 room p) w
def j_layP (room : Nat) : Nat → List (List g_Cl) → j_W → j_W
  | _, [], w => w
  | p, L :: Ls, w => j_layP room (p + 1) Ls (j_layB room p L w)
section LY
variable {N : Nat} {C : Nat × Nat} {g : ag_H} {re rd un : Int32} {kn : Nat} {rf tr he mi fa : Int32} {room : Nat} {rv : Nat → Option Nat} {va sk : Nat → Int32} {ra : Nat → Nat}
theorem jP_big {sz : Nat} {ov : Int32} {rw : Nat → Nat → Int32} {q : Nat} (h : jP q) : (js g re rd un kn rf tr he mi fa sz ov room rv rw va sk).2.2 q = g.2.2 q := js_big (by unfold jP at h; omega)
theorem js_43 (o : 75 ≤ g.1) {sz : Nat} {ov : Int32} {rw : Nat → Nat → Int32} {pv : Nat → Option Nat} (h : g.2.2 43 = .inl (5, 5, .inr (.inr (.inr (.inr pv))))) : ag_ao (js g re rd un kn rf tr he mi fa sz ov room rv rw va sk) (some 43) = some (5, pv) :=
  pu_ao5 (h := js g re rd un kn rf tr he mi fa sz ov room rv rw va sk) (Or.inr (Or.inl rfl)) (pu_at (by decide) (show 43 < g.1 by omega) ((js_big (Or.inr (Or.inr ⟨by decide, by decide⟩))).trans h))
theorem js_blk {sz : Nat} {ov : Int32} {rw : Nat → Nat → Int32} {b l : Nat} (h1 : jP b) (h2 : 2 ≤ b) (h3 : b < g.1) (h4 : g.2.2 b = .inr (5, [.ref l])) : ag_gr (js g re rd un kn rf tr he mi fa sz ov room rv rw va sk) (some b) 5 0 = some (some l) :=
  pu_gr (h := js g re rd un kn rf tr he mi fa sz ov room rv rw va sk) (pu_at h2 h3 ((jP_big h1).trans h4)) rfl
theorem c_lay19 (o : 75 ≤ g.1) (hN : 60 ≤ N) (hra : ra_ok rv ra) (hroom : room ≤ 30) {l p : Nat} (hp : p < 5) {L : List g_Cl} (hL : al_rep jP (cl_rep (46 ≤ ·) g) g l L) (hl : L.length ≤ 10) (hk : ∀ x, x ∈ L → x.1 ≤ 5 ∧ (x.1 = 0 → ∃ y, x.2.2.1 = some y)) (k2 : Int32 → ag_H → Option (Int32 × ag_H)) : ∀ (xs : List g_Cl) (d i : Nat) (w : j_W) (rw : Nat → Nat → Int32), i + xs.length = L.length → (∀ j, xs[j]? = L[i + j]?) → xs.length < d → fa_rep rw ra w.1 →
    ∃ rw', fn_Jg_layFacts_19 N C 7 k2 d (Int32.ofNat p) (some l) (Int32.ofNat i) (js g re rd un kn rf tr he mi fa w.1.length (j_b w.2) room rv rw va sk) = k2 (Int32.ofNat (p + 1)) (js g re rd un kn rf tr he mi fa (j_layB room p xs w).1.length (j_b (j_layB room p xs w).2) room rv rw' va sk) ∧ fa_rep rw' ra (j_layB room p xs w).1
  | xs, 0, i, w, rw, hi, hx, hd, hG => absurd hd (by omega)
  | [], d + 1, i, w, rw, hi, hx, hd, hG => by
    simp only [List.length_nil, Nat.add_zero] at hi
    have hal : al_rep jP (cl_rep (46 ≤ ·) g) (js g re rd un kn rf tr he mi fa w.1.length (j_b w.2) room rv rw va sk) l L := al_rep_ext (g := g) (Nat.le_refl _) (fun q hq _ => jP_big hq) hL
    refine ⟨rw, ?_, hG⟩
    rw [fe_Jg_layFacts_19, al_rep_rc hal, Option.bind_some, al_rep_size hal, Option.bind_some]
    dsimp only
    rw [if_pos (n_leT (by omega) (by omega)), n_1, n_add]
    rfl
  | x :: xs, d + 1, i, w, rw, hi, hx, hd, hG => by
    simp only [List.length_cons] at hi hd
    have hal : al_rep jP (cl_rep (46 ≤ ·) g) (js g re rd un kn rf tr he mi fa w.1.length (j_b w.2) room rv rw va sk) l L := al_rep_ext (g := g) (Nat.le_refl _) (fun q hq _ => jP_big hq) hL
    have hget : L[i]? = some x := by
      have := hx 0
      rw [Nat.add_zero] at this
      rw [← this]; rfl
    have hxs : ∀ j, xs[j]? = L[i + 1 + j]? := fun j => by
      have := hx (j + 1)
      rw [show i + (j + 1) = i + 1 + j by omega] at this
      rw [← this]; rfl
    obtain ⟨a, ha1, ha2⟩ := al_rep_get (N := N) (C := C) hal hget
    obtain ⟨p1, p2, p3, r, bl, sa, sv, e1, e2, e3, e4, e5, e6, e7, e8⟩ := ha2
    have ea : ag_at (js g re rd un kn rf tr he mi fa w.1.length (j_b w.2) room rv rw va sk) (.ref a) = some (.inr (7, [.int (Int32.ofNat x.1), .int (if x.2.1 = true then Int32.ofInt 1 else Int32.ofInt 0), ag_rf r, .ref bl, .ref sa])) := pu_at p2 p3 ((js_big (Or.inl p1)).trans e1)
    obtain ⟨hk5, hk0⟩ := hk x (List.mem_of_getElem? hget)
    rw [fe_Jg_layFacts_19, al_rep_rc hal, Option.bind_some, al_rep_size hal, Option.bind_some]
    dsimp only
    rw [if_neg (n_leF (by omega) (by omega)), al_rep_rc hal, Option.bind_some, ha1, Option.bind_some]
    dsimp only
    rw [if_pos (pu_ck ea), pu_gi (k := 0) ea rfl, Option.bind_some]
    unfold fn_Jg_layFacts_88
    have step : ∀ w1, j_lay1 room p w x = w1 → j_layB room p (x :: xs) w = j_layB room p xs w1 := fun w1 q => by
      show j_layB room p xs (j_lay1 room p w x) = _
      rw [q]
    by_cases e0 : x.1 = 0
    · obtain ⟨y, hy⟩ := hk0 e0
      rw [hy] at e2
      obtain ⟨b, hb, q1, q2, q3, q4⟩ := e2
      subst hb
      have eb : ag_at (js g re rd un kn rf tr he mi fa w.1.length (j_b w.2) room rv rw va sk) (.ref b) = some (.inr (6, [.int (Int32.ofNat y.1), .int (Int32.ofNat y.2.1), .int (Int32.ofInt y.2.2.1), .int (Int32.ofInt y.2.2.2)])) := pu_at q2 q3 ((js_big (Or.inl q1)).trans q4)
      rw [if_pos (show Int32.ofNat x.1 = 0 by rw [e0]; rfl), pu_gr (k := 2) ea rfl, Option.bind_some, if_neg (by simp), js_r7_0 o, Option.bind_some, Option.bind_some, Option.bind_some, pu_gi (k := 2) eb rfl, Option.bind_some, Option.bind_some, pu_gi (k := 3) eb rfl, Option.bind_some, js_rc8 o, Option.bind_some]
      obtain ⟨rw1, ko, kr⟩ := c_offer (N := N) (C := C) (re := re) (rd := rd) (un := un) (kn := kn) (rf := rf) (tr := tr) (he := he) (mi := mi) (fa := fa) (va := va) (sk := sk) o hN hra hG hroom w.2 q1 q3 q4 (Int32.ofInt y.2.2.1) (Int32.ofInt y.2.2.2) (j_own p)
      have ko' := ko
      unfold j_own at ko'
      rw [ko', Option.bind_some, n_1, n_add]
      have hst : j_lay1 room p w x = j_off room (Int32.ofNat y.1, Int32.ofNat y.2.1, Int32.ofInt y.2.2.1, Int32.ofInt y.2.2.2, j_own p) w.1 w.2 := by
        unfold j_lay1
        rw [if_pos e0, hy]
      rw [step _ hst]
      exact c_lay19 o hN hra hroom hp hL hl hk k2 xs d (i + 1) _ rw1 (by omega) hxs (by omega) kr
    · rw [if_neg (n_ne0 (by omega) (by omega)), n_1, n_add, step w (if_neg e0)]
      exact c_lay19 o hN hra hroom hp hL hl hk k2 xs d (i + 1) w rw (by omega) hxs (by omega) hG
theorem c_lay2 (o : 75 ≤ g.1) (hN : 60 ≤ N) (hra : ra_ok rv ra) (hroom : room ≤ 30) {Ps : List (List g_Cl)} (hP : pl_rep g Ps) : ∀ (Qs : List (List g_Cl)) (d p : Nat) (w : j_W) (rw : Nat → Nat → Int32), p + Qs.length = 5 → (∀ j, Qs[j]? = Ps[p + j]?) → Qs.length < d → fa_rep rw ra w.1 →
    ∃ rw', fn_Jg_layFacts_2 N C 7 d (Int32.ofNat p) (js g re rd un kn rf tr he mi fa w.1.length (j_b w.2) room rv rw va sk) = some (0, js g re rd un kn rf tr he mi fa (j_layP room p Qs w).1.length (j_b (j_layP room p Qs w).2) room rv rw' va sk) ∧ fa_rep rw' ra (j_layP room p Qs w).1
  | Qs, 0, p, w, rw, hp, hq, hd, hG => absurd hd (by omega)
  | [], d + 1, p, w, rw, hp, hq, hd, hG => by
    simp only [List.length_nil, Nat.add_zero] at hp
    refine ⟨rw, ?_, hG⟩
    rw [fe_Jg_layFacts_2, n_5, if_pos (n_leT (by omega) (by omega))]
    rfl
  | L :: Qs, d + 1, p, w, rw, hp, hq, hd, hG => by
    simp only [List.length_cons] at hp hd
    obtain ⟨h5, pv, hpv, hall⟩ := hP
    have hget : Ps[p]? = some L := by
      have := hq 0
      rw [Nat.add_zero] at this
      rw [← this]; rfl
    have hqs : ∀ j, Qs[j]? = Ps[p + 1 + j]? := fun j => by
      have := hq (j + 1)
      rw [show p + (j + 1) = p + 1 + j by omega] at this
      rw [← this]; rfl
    obtain ⟨b, l, hb1, hb2, hb3, hb4, hb5, hb6, hb7, hb8⟩ := hall p L hget
    rw [fe_Jg_layFacts_2, n_5, if_neg (n_leF (by omega) (by omega)), js_r7_2 o, Option.bind_some, js_43 o hpv, Option.bind_some, if_pos (show md_in (Int32.ofNat p) 5 = true by rw [n_in (by omega)]; omega), n_nat (by omega)]
    dsimp only
    rw [hb1, js_blk hb2 hb3 hb4 hb5, Option.bind_some, n_0]
    obtain ⟨rw1, k1, k2⟩ := c_lay19 (N := N) (C := C) (re := re) (rd := rd) (un := un) (kn := kn) (rf := rf) (tr := tr) (he := he) (mi := mi) (fa := fa) (va := va) (sk := sk) o hN hra hroom (show p < 5 by omega) hb6 hb7 (fun x hx => ⟨(hb8 x hx).2.2.2.1, (hb8 x hx).2.1⟩) (fn_Jg_layFacts_2 N C 7 d) L N 0 w rw (by omega) (fun j => by rw [Nat.zero_add]) (by omega) hG
    rw [k1]
    exact c_lay2 o hN hra hroom ⟨h5, pv, hpv, hall⟩ Qs d (p + 1) _ rw1 (by omega) hqs (by omega) k2
theorem c_layFacts (o : 75 ≤ g.1) (hN : 60 ≤ N) (hra : ra_ok rv ra) (hroom : room ≤ 30) {Ps : List (List g_Cl)} (hP : pl_rep g Ps) {w : j_W} {rw : Nat → Nat → Int32} (hG : fa_rep rw ra w.1) :
    ∃ rw', fn_Jg_layFacts N C 7 (js g re rd un kn rf tr he mi fa w.1.length (j_b w.2) room rv rw va sk) = some (0, js g re rd un kn rf tr he mi fa (j_layP room 0 Ps w).1.length (j_b (j_layP room 0 Ps w).2) room rv rw' va sk) ∧ fa_rep rw' ra (j_layP room 0 Ps w).1 := by
  unfold fn_Jg_layFacts fn_Jg_layFacts_0
  rw [n_0]
  exact c_lay2 o hN hra hroom hP Ps N 0 w rw (by rw [hP.1]) (fun j => by rw [Nat.zero_add]) (by rw [hP.1]; omega) hG
/-- a search -/
def j_srch (room : Nat) (x : g_Cl) (p : Nat) (F : List j_R) (w : j_W) : j_S := j_run room x (j_all F (j_tr p x.2.1) x.2.2.2.1 0 (fun _ => 0) (j_own p)) (w, (false, false, false))
theorem c_search (o : 75 ≤ g.1) (hN : 60 ≤ N) (hra : ra_ok rv ra) (hroom : room ≤ 30) {x : g_Cl} {a : Nat} (hx : cl_rep (46 ≤ ·) g a x) (hok : cl_ok x) (hb : 1 ≤ x.2.2.2.1.length) {F : List j_R} (hFb : ∀ r, r ∈ F → r_bd r) {w : j_W} {rw : Nat → Nat → Int32} (hG : fa_rep rw ra w.1) (hp : j_pre F w.1) (p : Nat) :
    ∃ rw' va' sk', fn_Jg_search N C 7 (some a) (Int32.ofNat p) (js g re rd un F.length rf tr he mi fa w.1.length (j_b w.2) room rv rw va sk) = some (0, jst g re rd un F.length rf (j_tr p x.2.1) room rv (j_srch room x p F w) rw' va' sk') ∧ fa_rep rw' ra (j_srch room x p F w).1.1 ∧ j_pre F (j_srch room x p F w).1.1 := by
  have hx2 := hx
  obtain ⟨p1, p2, p3, r, bl, sa, sv, e1, e2, e3, e4, e5, e6, e7, e8⟩ := hx
  have ea : ag_at (js g re rd un F.length rf tr he mi fa w.1.length (j_b w.2) room rv rw va sk) (.ref a) = some (.inr (7, [.int (Int32.ofNat x.1), .int (if x.2.1 = true then Int32.ofInt 1 else Int32.ofInt 0), ag_rf r, .ref bl, .ref sa])) := pu_at p2 p3 ((js_big (Or.inl p1)).trans e1)
  have hl3 := hok.1
  obtain ⟨rw', va', sk', k1, k2, k3, k4⟩ := c_bind (N := N) (C := C) (re := re) (rd := rd) (un := un) (rf := rf) (tr := j_tr p x.2.1) o hN hra hroom hx2 hok hFb x.2.2.2.1 5 0 0 (fun _ => 0) (j_own p) (w, (false, false, false)) rw va sk (by omega) (fun j => by rw [Nat.zero_add]) (by omega) (by omega) (fun i _ hbit => by rw [Nat.zero_testBit] at hbit; cases hbit) (fun i _ hbit => by rw [Nat.zero_testBit] at hbit; cases hbit) (fun i hi => by rw [Nat.zero_or]; exact hi) hG hp (fun q => by rw [q] at hb; exact absurd hb (by simp))
  have s23 : ∀ s2, (j_tr p x.2.1 = ((Int8.ofInt (17)).toInt32 ||| j_own p) ||| s2) → fn_Jg_search_23 N C 7 (some a) (j_own p) (some 7) ((Int8.ofInt (17)).toInt32 ||| j_own p) s2 (js g re rd un F.length rf tr he mi fa w.1.length (j_b w.2) room rv rw va sk) = some (0, jst g re rd un F.length rf (j_tr p x.2.1) room rv (j_srch room x p F w) rw' va' sk') := by
    intro s2 hs
    unfold fn_Jg_search_23
    rw [js_p7_10 o, Option.bind_some, ← hs, js_p7_11 o n_b0, Option.bind_some, js_p7_12 o n_b0, Option.bind_some, js_p7_13 o n_b0, Option.bind_some, js_rc7 o, Option.bind_some]
    have k1' : fn_Jg_bindR N C 5 7 (some a) (Int32.ofInt 0) (Int32.ofInt 0) (j_own p) (js g re rd un F.length rf (j_tr p x.2.1) (Int32.ofInt 0) (Int32.ofInt 0) (Int32.ofInt 0) w.1.length (j_b w.2) room rv rw va sk) = some (0, jst g re rd un F.length rf (j_tr p x.2.1) room rv (j_srch room x p F w) rw' va' sk') := k1
    rw [k1', Option.bind_some]
  refine ⟨rw', va', sk', ?_, k2, k4⟩
  unfold fn_Jg_search fn_Jg_search_0
  rw [pu_gi (k := 1) ea rfl, Option.bind_some]
  by_cases e : x.2.1 = true
  · rw [if_pos e, if_neg n_ne10]
    refine s23 _ ?_
    unfold j_tr
    rw [if_pos e]; rfl
  · rw [if_neg e, if_pos n_e00]
    refine s23 _ ?_
    unfold j_tr
    rw [if_neg e]
end LY
