/-! ### authorize: the class's side, its parts -/
def w_go (T : w_T) : List w_K → Int32 → Bool
  | [], k => decide (T.2.2.1 = k) && (!T.2.1 || decide (T.2.2.2 = Int32.ofNat T.1.length))
  | l :: ls, k => if l.2.2.1 = k ∧ l.2.2.2.1 = l.1 ∧ l.2.2.2.2 = l.2.1 then w_go T ls l.2.1 else false
def w_ok (T : w_T) (x : Int32) : Bool := w_go T T.1 x
def w_pl (T : w_T) (Bs : List (List g_Cl)) (i : Nat) : List g_Cl := match T.1[i]? with
  | none => []
  | some l => Bs.getD (l.1.toNatClampNeg - 1) []
def w_Ps (T : w_T) (Bs : List (List g_Cl)) (D : List g_Cl) : List (List g_Cl) := [w_pl T Bs 0, w_pl T Bs 1, w_pl T Bs 2, w_pl T Bs 3, D]
def gpv (g : ag_H) (pv : Nat → Option Nat) : ag_H := ag_up g 43 (.inl (5, 5, .inr (.inr (.inr (.inr pv)))))
theorem gpv_ne {g : ag_H} {pv : Nat → Option Nat} {q : Nat} (h : q ≠ 43) : (gpv g pv).2.2 q = g.2.2 q := by
  show (if q = 43 then _ else g.2.2 q) = g.2.2 q
  rw [if_neg h]
theorem gpv_self {g : ag_H} {pv : Nat → Option Nat} (h : g.2.2 43 = .inl (5, 5, .inr (.inr (.inr (.inr pv))))) : gpv g pv = g := by
  refine rs_ext rfl rfl fun q => ?_
  by_cases e : q = 43
  · subst e; exact h.symm
  · exact gpv_ne e
theorem gpv_js {g : ag_H} {pv : Nat → Option Nat} {re rd un : Int32} {kn : Nat} {rf tr he mi fa : Int32} {sz : Nat} {ov : Int32} {room : Nat} {rv : Nat → Option Nat} {rw : Nat → Nat → Int32} {va sk : Nat → Int32} : gpv (js g re rd un kn rf tr he mi fa sz ov room rv rw va sk) pv = js (gpv g pv) re rd un kn rf tr he mi fa sz ov room rv rw va sk := by
  refine rs_ext rfl rfl fun q => ?_
  by_cases e : q = 43
  · subst e; rfl
  · rw [gpv_ne e]
    show (if q = 7 then _ else if q = 8 then _ else if q = 9 then _ else if q = 44 then _ else if q = 45 then _ else if 10 ≤ q ∧ q ≤ 40 then _ else g.2.2 q) = (if q = 7 then _ else if q = 8 then _ else if q = 9 then _ else if q = 44 then _ else if q = 45 then _ else if 10 ≤ q ∧ q ≤ 40 then _ else (gpv g pv).2.2 q)
    rw [gpv_ne e]
theorem pu_as5 {h : ag_H} {e n b : Nat} {fs : List Value} {f : Nat → Option Nat} {i : Int32} (h2 : ag_at h (.ref e) = some (.inl (5, n, .inr (.inr (.inr (.inr f)))))) (hi : md_in i n = true) (hb : ag_at h (.ref b) = some (.inr (5, fs))) :
    ag_as h (some e) i (some b) = some (ag_up h e (.inl (5, n, .inr (.inr (.inr (.inr (va_up f i.toNatClampNeg (some b)))))))) := by
  unfold ag_as
  have : ag_at h (ag_rf (some e)) = some (.inl (5, n, .inr (.inr (.inr (.inr f))))) := h2
  simp only [this]
  rw [if_pos ⟨Or.inr trivial, hi⟩]
  simp only [hb]
  rw [if_pos (show ag_cok 5 5 = true by decide)]
  rfl
section CAU
variable {N : Nat} {C : Nat × Nat} {ow : Nat → Nat} {g : ag_H} {lc : Nat → Nat} {ln : Nat} {M : List g_Cl} {Bs : List (List g_Cl)} {D : List g_Cl} {Ts : List w_T} {K most more : Nat} {re : Int32} {rd : Nat} {un : Int32} {Gs : List j_R}
theorem js_of (h : cI ow g lc ln M Bs D Ts K most more re rd un Gs) : ∃ (kn : Nat) (rf tr he mi fa ov : Int32) (room : Nat) (rv : Nat → Option Nat) (rw : Nat → Nat → Int32) (va sk : Nat → Int32) (ra : Nat → Nat), g = js g re (Int32.ofNat rd) un kn rf tr he mi fa Gs.length ov room rv rw va sk ∧ ra_ok rv ra ∧ fa_rep rw ra Gs := by
  obtain ⟨h1, -, -, ⟨kn, rf, tr, he, mi, fa, ov, room, rv, rw, va, sk, ra, ⟨j7, j8, j9, j44, j45, jr⟩, hra, hfa⟩, -, mk, hG, hO⟩ := h
  obtain ⟨kn, rfl⟩ := i32_nat kn
  obtain ⟨room, rfl⟩ := i32_nat room
  refine ⟨kn, rf, tr, he, mi, fa, ov, room, rv, rw, va, sk, ra, rs_ext rfl rfl fun q => ?_, hra, hfa⟩
  show g.2.2 q = (if q = 7 then _ else if q = 8 then _ else if q = 9 then _ else if q = 44 then _ else if q = 45 then _ else if 10 ≤ q ∧ q ≤ 40 then _ else g.2.2 q)
  by_cases q7 : q = 7
  · rw [if_pos q7, q7]; exact j7
  rw [if_neg q7]
  by_cases q8 : q = 8
  · rw [if_pos q8, q8]; exact j8
  rw [if_neg q8]
  by_cases q9 : q = 9
  · rw [if_pos q9, q9]; exact j9
  rw [if_neg q9]
  by_cases q44 : q = 44
  · rw [if_pos q44, q44]; exact j44
  rw [if_neg q44]
  by_cases q45 : q = 45
  · rw [if_pos q45, q45]; exact j45
  rw [if_neg q45]
  by_cases qr : 10 ≤ q ∧ q ≤ 40
  · rw [if_pos qr]; exact jr q qr
  rw [if_neg qr]
theorem cI_js (h : cI ow g lc ln M Bs D Ts K most more re rd un Gs) {re' un' rf tr he mi fa ov : Int32} {rd' kn room : Nat} {rv : Nat → Option Nat} {rw : Nat → Nat → Int32} {va sk : Nat → Int32} {ra : Nat → Nat} {Gs' : List j_R} (hra : ra_ok rv ra) (hfa : fa_rep rw ra Gs') : cI ow (js g re' (Int32.ofNat rd') un' kn rf tr he mi fa Gs'.length ov room rv rw va sk) lc ln M Bs D Ts K most more re' rd' un' Gs' := by
  obtain ⟨h1, ⟨p, f, l1, l2, l3⟩, ⟨kk, nv, bv, st, r1, r2⟩, -, ⟨n1, ⟨md, n2⟩, pv, n3⟩, mk, hG, hO⟩ := h
  have lo : ∀ q, q < 7 → (js g re' (Int32.ofNat rd') un' kn rf tr he mi fa Gs'.length ov room rv rw va sk).2.2 q = g.2.2 q := fun q hq => js_big (Or.inr (Or.inl hq))
  have mi' : ∀ q, 41 ≤ q → q ≤ 43 → (js g re' (Int32.ofNat rd') un' kn rf tr he mi fa Gs'.length ov room rv rw va sk).2.2 q = g.2.2 q := fun q a b => js_big (Or.inr (Or.inr ⟨a, b⟩))
  refine ⟨h1, ⟨p, f, (lo 3 (by omega)).trans l1, (lo 4 (by omega)).trans l2, l3⟩, ⟨kk, nv, bv, st, (lo 5 (by omega)).trans r1, (lo 6 (by omega)).trans r2⟩, ⟨Int32.ofNat kn, rf, tr, he, mi, fa, ov, Int32.ofNat room, rv, rw, va, sk, ra, ⟨rfl, rfl, rfl, rfl, rfl, fun q hq => ?_⟩, hra, hfa⟩, ⟨(mi' 41 (by omega) (by omega)).trans n1, ⟨md, (mi' 42 (by omega) (by omega)).trans n2⟩, pv, (mi' 43 (by omega) (by omega)).trans n3⟩, mk, (lo 2 (by omega)).trans hG, cO_ext (g := g) (g' := js g re' (Int32.ofNat rd') un' kn rf tr he mi fa Gs'.length ov room rv rw va sk) (Nat.le_refl _) (fun q h3 _ => by have := hO.1 q h3; exact js_big (Or.inl (by omega))) h1 hO⟩
  show (if q = 7 then _ else if q = 8 then _ else if q = 9 then _ else if q = 44 then _ else if q = 45 then _ else if 10 ≤ q ∧ q ≤ 40 then _ else g.2.2 q) = _
  rw [if_neg (by omega), if_neg (by omega), if_neg (by omega), if_neg (by omega), if_neg (by omega), if_pos hq]
theorem cI_pv (h : cI ow g lc ln M Bs D Ts K most more re rd un Gs) (pv : Nat → Option Nat) : cI ow (gpv g pv) lc ln M Bs D Ts K most more re rd un Gs := by
  obtain ⟨h1, ⟨p, f, l1, l2, l3⟩, ⟨kk, nv, bv, st, r1, r2⟩, ⟨kn, rf, tr, he, mi, fa, ov, room, rv, rw, va, sk, ra, ⟨j7, j8, j9, j44, j45, jr⟩, hra, hfa⟩, ⟨n1, ⟨md, n2⟩, pv0, n3⟩, mk, hG, hO⟩ := h
  have lo : ∀ q, q ≠ 43 → (gpv g pv).2.2 q = g.2.2 q := fun q hq => gpv_ne hq
  exact ⟨h1, ⟨p, f, (lo 3 (by omega)).trans l1, (lo 4 (by omega)).trans l2, l3⟩, ⟨kk, nv, bv, st, (lo 5 (by omega)).trans r1, (lo 6 (by omega)).trans r2⟩, ⟨kn, rf, tr, he, mi, fa, ov, room, rv, rw, va, sk, ra, ⟨(lo 7 (by omega)).trans j7, (lo 8 (by omega)).trans j8, (lo 9 (by omega)).trans j9, (lo 44 (by omega)).trans j44, (lo 45 (by omega)).trans j45, fun q hq => (lo q (by omega)).trans (jr q hq)⟩, hra, hfa⟩, ⟨(lo 41 (by omega)).trans n1, ⟨md, (lo 42 (by omega)).trans n2⟩, pv, rfl⟩, mk, (lo 2 (by omega)).trans hG, cO_ext (g := g) (g' := gpv g pv) (Nat.le_refl _) (fun q h3 _ => by have := hO.1 q h3; exact lo q (by omega)) h1 hO⟩
/-- is each link signed by the key before it -/
theorem c_ri4 {P : Nat → Prop} {b l : Nat} {T : w_T} (k2 : ag_at g (.ref b) = some (.inr (8, [.ref l, .int (j_b T.2.1), .int T.2.2.1, .int T.2.2.2]))) (k3 : al_rep P (lk_rep P g) g l T.1) (h4 : T.1.length ≤ 4) : ∀ (xs : List w_K) (d i : Nat) (k : Int32), i + xs.length = T.1.length → (∀ j, xs[j]? = T.1[i + j]?) → xs.length < d → fn_Tk_isRightFor_4 N C b d k (Int32.ofNat i) g = some (j_b (w_go T xs k), g)
  | xs, 0, i, k, hi, hx, hd => absurd hd (by omega)
  | [], d + 1, i, k, hi, hx, hd => by
    have hi' : i = T.1.length := hi
    have e0 : ¬ j_b true = 0 := n_ne10
    rw [fe_Tk_isRightFor_4, pu_gr (k := 0) k2 rfl, Option.bind_some, al_rep_rc k3, Option.bind_some, al_rep_size k3, Option.bind_some]
    dsimp only
    rw [if_pos (n_leT (by omega) (by omega)), pu_gi (k := 2) k2 rfl, Option.bind_some]
    unfold fn_Tk_isRightFor_86 fn_Tk_isRightFor_90 fn_Tk_isRightFor_91 w_go
    by_cases e : T.2.2.1 = k
    · rw [if_pos e, pu_gi (k := 1) k2 rfl, Option.bind_some, decide_eq_true e]
      cases hs : T.2.1 with
      | false =>
        rw [if_pos (show j_b false = 0 from n_e00), if_pos n_b1]
        rfl
      | true =>
        rw [if_neg e0, pu_gi (k := 3) k2 rfl, Option.bind_some, pu_gr (k := 0) k2 rfl, Option.bind_some, al_rep_rc k3, Option.bind_some, al_rep_size k3, Option.bind_some]
        dsimp only
        by_cases e2 : T.2.2.2 = Int32.ofNat T.1.length
        · rw [if_pos e2, if_pos n_b1, decide_eq_true e2]
          rfl
        · rw [if_neg e2, if_pos n_b0, decide_eq_false e2]
          rfl
    · rw [if_neg e, if_pos n_b0, decide_eq_false e]
      rfl
  | y :: xs, d + 1, i, k, hi, hx, hd => by
    simp only [List.length_cons] at hi hd
    have hy : T.1[i]? = some y := by have := hx 0; rw [Nat.add_zero] at this; rw [← this]; rfl
    have hx' : ∀ j, xs[j]? = T.1[i + 1 + j]? := fun j => by
      have := hx (j + 1)
      rw [show i + 1 + j = i + (j + 1) by omega, ← this]
      rfl
    obtain ⟨q, q1, q2⟩ := al_rep_get (N := N) (C := C) k3 hy
    have q3 := pu_at q2.2.1 q2.2.2.1 q2.2.2.2
    rw [fe_Tk_isRightFor_4, pu_gr (k := 0) k2 rfl, Option.bind_some, al_rep_rc k3, Option.bind_some, al_rep_size k3, Option.bind_some]
    dsimp only
    rw [if_neg (n_leF (by omega) (by omega)), pu_gr (k := 0) k2 rfl, Option.bind_some, al_rep_rc k3, Option.bind_some, q1, Option.bind_some]
    dsimp only
    rw [if_pos (pu_ck q3), pu_rc q3, Option.bind_some]
    have hsig : fn_Lk_isSignedBy N C q k g = some (j_b (decide (y.2.2.1 = k ∧ y.2.2.2.1 = y.1 ∧ y.2.2.2.2 = y.2.1)), g) := by
      unfold fn_Lk_isSignedBy fn_Lk_isSignedBy_0 fn_Lk_isSignedBy_34 fn_Lk_isSignedBy_35
      rw [pu_gi (k := 2) q3 rfl, Option.bind_some]
      by_cases c1 : y.2.2.1 = k
      · rw [if_pos c1, pu_gi (k := 3) q3 rfl, Option.bind_some, pu_gi (k := 0) q3 rfl, Option.bind_some]
        by_cases c2 : y.2.2.2.1 = y.1
        · rw [if_pos c2, pu_gi (k := 4) q3 rfl, Option.bind_some, pu_gi (k := 1) q3 rfl, Option.bind_some]
          by_cases c3 : y.2.2.2.2 = y.2.1
          · rw [if_pos c3, if_pos n_b1, decide_eq_true ⟨c1, c2, c3⟩]; rfl
          · rw [if_neg c3, if_pos n_b0, decide_eq_false (fun z => c3 z.2.2)]; rfl
        · rw [if_neg c2, if_pos n_b0, decide_eq_false (fun z => c2 z.2.1)]; rfl
      · rw [if_neg c1, if_pos n_b0, decide_eq_false (fun z => c1 z.1)]; rfl
    rw [hsig, Option.bind_some]
    dsimp only
    unfold w_go
    by_cases c : y.2.2.1 = k ∧ y.2.2.2.1 = y.1 ∧ y.2.2.2.2 = y.2.1
    · rw [decide_eq_true c, if_neg (show ¬ j_b true = 0 from n_ne10), pu_gi (k := 1) q3 rfl, Option.bind_some, if_pos c, n_1, n_add]
      exact c_ri4 k2 k3 h4 xs d (i + 1) y.2.1 (by omega) hx' (by omega)
    · rw [decide_eq_false c, if_pos (show j_b false = 0 from n_e00), if_pos n_b0, if_neg c]
      rfl
theorem c_right (hN : 60 ≤ N) {P : Nat → Prop} {b l : Nat} {T : w_T} (k2 : ag_at g (.ref b) = some (.inr (8, [.ref l, .int (j_b T.2.1), .int T.2.2.1, .int T.2.2.2]))) (k3 : al_rep P (lk_rep P g) g l T.1) (h4 : T.1.length ≤ 4) (x : Int32) : fn_Tk_isRightFor N C b x g = some (j_b (w_ok T x), g) := by
  unfold fn_Tk_isRightFor fn_Tk_isRightFor_0 w_ok
  rw [n_0]
  exact c_ri4 k2 k3 h4 T.1 N 0 x (by omega) (fun j => by rw [Nat.zero_add]) (by omega)
def lo_at (ow : Nat → Nat) (g : ag_H) (T : w_T) (Bs : List (List g_Cl)) (k a : Nat) : Prop := (T.1[k]? = none ∧ a = 41) ∨ ∃ l L, T.1[k]? = some l ∧ Bs[l.1.toNatClampNeg - 1]? = some L ∧ bl_rep (own ow 0) g a L
theorem c_lo2 (h : cI ow g lc ln M Bs D Ts K most more re rd un Gs) {b : Nat} {T : w_T} (hT : tk_rep (own ow 0) g b T) (h4 : T.1.length ≤ 4) (hB : Bs.length ≤ 16) (hlk : ∀ l, l ∈ T.1 → ∃ b, 1 ≤ b ∧ b ≤ Bs.length ∧ l.1 = Int32.ofNat b) : ∀ (n d i : Nat) (pv : Nat → Option Nat), i + n = 4 → n < d →
    ∃ pv', fn_GC_layOut_2 N C 2 d (some b) (Int32.ofNat i) (gpv g pv) = some (0, gpv g pv') ∧ (∀ k, k < i → pv' k = pv k) ∧ (∀ k, i ≤ k → k < 4 → ∃ a, pv' k = some a ∧ lo_at ow g T Bs k a) ∧ pv' 4 = some 46
  | n, 0, i, pv, hi, hd => absurd hd (by omega)
  | n, d + 1, i, pv, hi, hd => by
    have hp := cI_pv h pv
    obtain ⟨h1, -, -, ⟨kn, rf, tr, he, mi, fa, ov, room, rv, rw, va, sk, ra, ⟨j7, j8, j9, j44, j45, jr⟩, hra, hfa⟩, ⟨n1, ⟨md, n2⟩, -⟩, mk, hG, hO⟩ := hp
    have hO0 := h.2.2.2.2.2
    have e2 : ag_at (gpv g pv) (.ref 2) = _ := pu_at (by omega) (by omega) hG
    have e7 : ag_at (gpv g pv) (.ref 7) = _ := pu_at (by omega) (by omega) j7
    have e41 : ag_at (gpv g pv) (.ref 41) = _ := pu_at (by omega) (by omega) n1
    have e43 : ag_at (gpv g pv) (.ref 43) = some (.inl (5, 5, .inr (.inr (.inr (.inr pv))))) := pu_at (by omega) (by omega) rfl
    have e46 : ag_at (gpv g pv) (.ref 46) = _ := pu_at (by omega) (by omega) hO.2.1.2
    have up : ∀ pv', ag_up (gpv g pv) 43 (.inl (5, 5, .inr (.inr (.inr (.inr pv'))))) = gpv g pv' := fun pv' => pu_up_up g 43 _ _
    have h52 : ∀ q, own ow 0 q → q < g.1 → (gpv g pv).2.2 q = g.2.2 q := fun q hq _ => gpv_ne (by
      have hq' : ow q = 0 := hq
      have := hO.1 q (by omega)
      omega)
    have hT' : tk_rep (own ow 0) (gpv g pv) b T := tk_ext (g := g) (g' := gpv g pv) (Nat.le_refl _) h52 hT
    obtain ⟨t1, t2, t3, l, t4, t5⟩ := hT'
    have eb : ag_at (gpv g pv) (.ref b) = _ := pu_at t2 t3 t4
    match n, hi, hd with
    | 0, hi, hd =>
      refine ⟨va_up pv 4 (some 46), ?_, fun k hk => if_neg (by omega), fun k a b => by omega, rfl⟩
      rw [fe_GC_layOut_2, n_4, if_pos (n_leT (by omega) (by omega)), pu_gr (k := 2) e2 rfl, Option.bind_some, pu_gr (k := 2) e7 rfl, Option.bind_some, pu_gr (k := 3) e2 rfl, Option.bind_some, pu_as5 e43 (by decide) e46, Option.bind_some, n_nat (by omega), up]
    | n + 1, hi, hd =>
      have ii : md_in (Int32.ofNat i) 5 = true := by rw [n_in (by omega)]; omega
      have ni : (Int32.ofNat i).toNatClampNeg = i := n_nat (by omega)
      rw [fe_GC_layOut_2, n_4, if_neg (n_leF (by omega) (by omega)), pu_gr (k := 0) eb rfl, Option.bind_some, al_rep_rc t5, Option.bind_some, al_rep_size t5, Option.bind_some]
      dsimp only
      by_cases c : T.1.length ≤ i
      · obtain ⟨pv', z1, z2, z3, z4⟩ := c_lo2 h hT h4 hB hlk n d (i + 1) (va_up pv i (some 41)) (by omega) (by omega)
        refine ⟨pv', ?_, fun k hk => (z2 k (by omega)).trans (if_neg (by omega)), fun k a b => ?_, z4⟩
        · rw [if_pos (n_leT c (by omega))]
          unfold fn_GC_layOut_40 fn_GC_layOut_85 fn_GC_layOut_92
          rw [pu_gr (k := 2) e2 rfl, Option.bind_some, pu_gr (k := 2) e7 rfl, Option.bind_some, if_pos (show Int32.ofInt 0 < Int32.ofInt 1 by decide), Option.bind_some, pu_gr (k := 1) e7 rfl, Option.bind_some, pu_as5 e43 ii e41, Option.bind_some, ni, up, n_1, n_add]
          exact z1
        · by_cases e : k = i
          · subst e
            exact ⟨41, (z2 k (by omega)).trans (if_pos rfl), Or.inl ⟨List.getElem?_eq_none c, rfl⟩⟩
          · exact z3 k (by omega) b
      · obtain ⟨lk, hl⟩ : ∃ lk, T.1[i]? = some lk := ⟨_, List.getElem?_eq_getElem (by omega)⟩
        obtain ⟨q, q1, q2⟩ := al_rep_get (N := N) (C := C) t5 hl
        have q3 := pu_at q2.2.1 q2.2.2.1 q2.2.2.2
        obtain ⟨bk, b1, b2, b3⟩ := hlk lk (List.mem_of_getElem? hl)
        obtain ⟨L, hL⟩ : ∃ L, Bs[bk - 1]? = some L := ⟨_, List.getElem?_eq_getElem (by omega)⟩
        obtain ⟨a, a1, a2⟩ := al_rep_get (N := N) (C := C) hO.2.2.2.1 hL
        have a2' : bl_rep (own ow 0) g a L := bl_ext (g := gpv g pv) (g' := g) (Nat.le_refl _) (fun q hq hlt => (h52 q hq hlt).symm) a2
        obtain ⟨a3, a4, a5, la, a6, a7⟩ := a2
        have ea : ag_at (gpv g pv) (.ref a) = _ := pu_at a4 a5 a6
        obtain ⟨pv', z1, z2, z3, z4⟩ := c_lo2 h hT h4 hB hlk n d (i + 1) (va_up pv i (some a)) (by omega) (by omega)
        refine ⟨pv', ?_, fun k hk => (z2 k (by omega)).trans (if_neg (by omega)), fun k k1 k2 => ?_, z4⟩
        · rw [if_neg (n_leF (by omega) (by omega)), pu_gr (k := 0) eb rfl, Option.bind_some, al_rep_rc t5, Option.bind_some, q1, Option.bind_some]
          dsimp only
          rw [if_pos (pu_ck q3), pu_gi (k := 0) q3 rfl, Option.bind_some, b3]
          unfold fn_GC_layOut_40 fn_GC_layOut_92
          rw [pu_gr (k := 2) e2 rfl, Option.bind_some, pu_gr (k := 2) e7 rfl, Option.bind_some, n_1, if_neg (n_ltF b1 (by omega)), pu_gr (k := 4) e2 rfl, Option.bind_some, al_rep_rc hO.2.2.2.1, Option.bind_some, al_rep_size hO.2.2.2.1, Option.bind_some]
          dsimp only
          rw [if_neg (n_ltF b2 (by omega)), pu_gr (k := 4) e2 rfl, Option.bind_some, al_rep_rc hO.2.2.2.1, Option.bind_some, n_sub b1, a1, Option.bind_some]
          dsimp only
          rw [if_pos (pu_ck ea), pu_as5 e43 ii ea, Option.bind_some, ni, up, n_add]
          exact z1
        · by_cases e : k = i
          · subst e
            exact ⟨a, (z2 k (by omega)).trans (if_pos rfl), Or.inr ⟨lk, L, hl, by rw [b3, n_nat (by omega)]; exact hL, a2'⟩⟩
          · exact z3 k (by omega) k2
/-- the places are laid out -/
theorem c_layOut (hN : 60 ≤ N) (h : cI ow g lc ln M Bs D Ts K most more re rd un Gs) (ok : g_ok lc ln M Bs D Ts K most more) {b : Nat} {T : w_T} (hT : tk_rep (own ow 0) g b T) (hTs : T ∈ Ts) : ∃ pv', fn_GC_layOut N C 2 (some b) g = some (0, gpv g pv') ∧ pl_rep (gpv g pv') (w_Ps T Bs D) := by
  have hB16 : Bs.length ≤ 16 := Nat.le_trans ok.2.2.1.1 ok.2.2.2.2.1.1
  obtain ⟨⟨t1, t4⟩, tl⟩ := ok.2.2.2.2.1.2 T hTs
  obtain ⟨n1, ⟨md, n2⟩, pv, n3⟩ := h.2.2.2.2.1
  obtain ⟨pv', z1, -, z3, z4⟩ := c_lo2 (N := N) (C := C) h hT t4 hB16 tl 4 N 0 pv (by omega) (by omega)
  rw [gpv_self n3] at z1
  refine ⟨pv', by unfold fn_GC_layOut fn_GC_layOut_0; rw [n_0]; exact z1, rfl, pv', rfl, fun i L hL => ?_⟩
  have h1 := h.1
  obtain ⟨mk, hG, hO⟩ := h.2.2.2.2.2
  have big : ∀ q, ow q ≠ 1 → 46 ≤ q ∧ q ≠ 43 := fun q hq => by have := hO.1 q hq; omega
  have xs : ∀ x, x_ok x → cl_ok x ∧ (x.1 = 0 → ∃ y, x.2.2.1 = some y) ∧ (x.1 ≠ 0 → 1 ≤ x.2.2.2.1.length) ∧ x.1 ≤ 5 ∧ (2 ≤ x.1 → x.2.2.1 = none) := fun x hx => ⟨hx.1, fun e => hx.2.2.1 (by omega), hx.2.2.2.1, hx.2.1, hx.2.2.2.2.1⟩
  have ex : ∀ k, k ≠ 1 → ∀ q, own ow k q → q < g.1 → (gpv g pv').2.2 q = g.2.2 q := fun k hk q hq _ => gpv_ne (by
    have hq' : ow q = k := hq
    exact (big q (by omega)).2)
  have mo : ∀ k, k ≠ 1 → ∀ q, own ow k q → q < (gpv g pv').1 → jP q := fun k hk q hq _ => Or.inl (by
    have hq' : ow q = k := hq
    exact (big q (by omega)).1)
  have ce : ∀ a x, cl_rep (own ow 0) g a x → cl_rep (46 ≤ ·) (gpv g pv') a x := fun a x hx => cl_mono (g := gpv g pv') (fun q hq _ => by
    have hq' : ow q = 0 := hq
    exact (big q (by omega)).1) (cl_ext (g := g) (g' := gpv g pv') (Nat.le_refl _) (ex 0 (by decide)) hx)
  have low : i < 4 → w_pl T Bs i = L → ∃ b l, pv' i = some b ∧ jP b ∧ 2 ≤ b ∧ b < (gpv g pv').1 ∧ (gpv g pv').2.2 b = .inr (5, [.ref l]) ∧ al_rep jP (cl_rep (46 ≤ ·) (gpv g pv')) (gpv g pv') l L ∧ L.length ≤ 10 ∧ ∀ x, x ∈ L → cl_ok x ∧ (x.1 = 0 → ∃ y, x.2.2.1 = some y) ∧ (x.1 ≠ 0 → 1 ≤ x.2.2.2.1.length) ∧ x.1 ≤ 5 ∧ (2 ≤ x.1 → x.2.2.1 = none) := by
    intro hi hw
    obtain ⟨a, a1, a2⟩ := z3 i (Nat.zero_le _) hi
    unfold w_pl at hw
    rcases a2 with ⟨e1, rfl⟩ | ⟨lk, L', e1, e2, e3⟩
    · rw [e1] at hw
      have hw : [] = L := hw
      subst hw
      refine ⟨41, 42, a1, Or.inr ⟨by decide, by decide⟩, by decide, by show 41 < g.1; omega, (gpv_ne (by decide)).trans n1, ⟨Or.inr ⟨by decide, by decide⟩, by decide, by show 42 < g.1; omega, md, Or.inl ⟨rfl, (gpv_ne (by decide)).trans n2⟩⟩, Nat.zero_le _, fun x hx => by cases hx⟩
    · rw [e1] at hw
      have hw : Bs.getD (lk.1.toNatClampNeg - 1) [] = L := hw
      rw [List.getD_eq_getElem?_getD, e2] at hw
      have hw : L' = L := hw
      subst hw
      have hm := ok.2.2.1.2 L' (List.mem_of_getElem? e2)
      obtain ⟨b1, b2, b3, la, b4, b5⟩ := e3
      have hb1 : ow a = 0 := b1
      refine ⟨a, la, a1, Or.inl (big a (by omega)).1, b2, b3, (gpv_ne (big a (by omega)).2).trans b4, al_rep_mono (mo 0 (by decide)) (fun a x _ hx => ce a x hx) (al_rep_ext (g := g) (g' := gpv g pv') (Nat.le_refl _) (ex 0 (by decide)) b5), by omega, fun x hx => xs x (hm.2 x hx).1⟩
  match i, hL with
  | 0, hL => exact low (by omega) (Option.some.inj hL)
  | 1, hL => exact low (by omega) (Option.some.inj hL)
  | 2, hL => exact low (by omega) (Option.some.inj hL)
  | 3, hL => exact low (by omega) (Option.some.inj hL)
  | 4, hL =>
    have hL : D = L := Option.some.inj hL
    subst hL
    exact ⟨46, 47, z4, Or.inl (by decide), by decide, by show 46 < g.1; omega, (gpv_ne (by decide)).trans hO.2.1.2, al_rep_mono (mo 2 (by decide)) (fun a x _ hx => ce a x hx) (al_rep_ext (g := g) (g' := gpv g pv') (Nat.le_refl _) (ex 2 (by decide)) hO.2.2.1), ok.2.2.2.1.1, fun x hx => xs x (ok.2.2.2.1.2 x hx)⟩
  | i + 5, hL => cases hL
end CAU
