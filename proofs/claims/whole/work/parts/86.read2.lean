/-! ### A line is read: the whole of it -/
theorem g_bd_ok {c : Nat → Nat} {n : Nat} {m : Int32} : ∀ (e p : Nat) (as : List g_A) (bv : Int32) (r : (List g_A × Int32) × g_E), p ≤ n → g_bd c n m e p as bv = some r → p ≤ r.2.1 ∧ r.2.1 ≤ n ∧ r.2.2.1.length + p ≤ r.2.1
  | 0, p, as, bv, r, hp, h => by
    unfold g_bd at h
    obtain ⟨r1, e1, h⟩ := md_bd h
    have := g_cms_bnd _ _ _ _ _ hp e1
    cases h
    simp only [List.length_nil] at this
    dsimp only
    omega
  | e + 1, p, as, bv, r, hp, h => by
    unfold g_bd at h
    obtain ⟨r1, e1, h⟩ := md_bd h
    have h1 := g_at_ok hp (show g_at c n p = some (r1.1, r1.2) from e1)
    have hs := g_s_le (c := c) h1.2.1
    split at h
    · cases h
      dsimp only
      simp only [List.length_nil]
      omega
    · next p2 e2 =>
      have h2 := g_t_ok h1.2.1 (by decide) e2
      have hs2 := g_s_le (c := c) h2.2
      split at h
      · have := g_bd_ok e _ _ _ _ hs2.2 h
        omega
      · obtain ⟨r3, e3, h⟩ := md_bd h
        have := g_cms_bnd _ _ _ _ _ hs2.2 e3
        cases h
        simp only [List.length_nil] at this
        dsimp only
        omega
def rd_sp (n L : Nat) (h : ag_H) (R : Option g_Cl) (F : Option (Option Nat × ag_H)) (dn ds : Nat) : Prop := match R with
  | some x => ∃ h' a p' k' nv' bv' st', F = some (some a, rs h' n p' k' nv' bv' st') ∧ cl_rep (L ≤ ·) h' a x ∧ fr_L L h h' dn ds
  | none => ∃ h' p' k' nv' bv' st', F = some (none, rs h' n p' k' nv' bv' st') ∧ fr_L L h h' dn ds
theorem rd_spw {n L : Nat} {h h1 : ag_H} {R : Option g_Cl} {F : Option (Option Nat × ag_H)} {a b dn ds dn' ds' : Nat} (x : fr_L L h h1 a b) (y : rd_sp n L h1 R F dn ds) (h2 : a + dn ≤ dn') (h3 : b + ds ≤ ds') : rd_sp n L h R F dn' ds' := by
  cases R with
  | none =>
    obtain ⟨h', p', k', nv', bv', st', e, fr⟩ := y
    exact ⟨h', p', k', nv', bv', st', e, fr_Lw (fr_Lt x fr) h2 h3⟩
  | some z =>
    obtain ⟨h', a, p', k', nv', bv', st', e, cr, fr⟩ := y
    exact ⟨h', a, p', k', nv', bv', st', e, cr, fr_Lw (fr_Lt x fr) h2 h3⟩
theorem at_ext {P : Nat → Prop} {g g' : ag_H} (hn : g.1 ≤ g'.1) (hq : ∀ q, P q → q < g.1 → g'.2.2 q = g.2.2 q) {b : Nat} {x : g_A} (r : at_rep P g b x) : at_rep P g' b x := ⟨r.1, r.2.1, Nat.lt_of_lt_of_le r.2.2.1 hn, (hq b r.1 r.2.2.1).trans r.2.2.2⟩
theorem hd_ext {P : Nat → Prop} {g g' : ag_H} (hn : g.1 ≤ g'.1) (hq : ∀ q, P q → q < g.1 → g'.2.2 q = g.2.2 q) {r : Option Nat} {x : Option g_A} (e : hd_rep P g r x) : hd_rep P g' r x := by
  cases x with
  | none => exact e
  | some y => obtain ⟨b, h1, h2⟩ := e; exact ⟨b, h1, at_ext hn hq h2⟩
theorem bd_ext {P : Nat → Prop} {g g' : ag_H} (hn : g.1 ≤ g'.1) (hq : ∀ q, P q → q < g.1 → g'.2.2 q = g.2.2 q) {l : Nat} {xs : List g_A} (e : al_rep P (at_rep P g) g l xs) : al_rep P (at_rep P g') g' l xs :=
  al_rep_mono (fun _ h _ => h) (fun _ _ _ h => at_ext hn hq h) (al_rep_ext hn hq e)
theorem cl_ext {P : Nat → Prop} {g g' : ag_H} (hn : g.1 ≤ g'.1) (hq : ∀ q, P q → q < g.1 → g'.2.2 q = g.2.2 q) {a : Nat} {x : g_Cl} (e : cl_rep P g a x) : cl_rep P g' a x := by
  obtain ⟨h1, h2, h3, r, bl, sa, sv, e1, e2, e3, e4, e5, e6, e7, e8⟩ := e
  exact ⟨h1, h2, Nat.lt_of_lt_of_le h3 hn, r, bl, sa, sv, (hq a h1 h3).trans e1, hd_ext hn hq e2, bd_ext hn hq e3, e4, e5, Nat.lt_of_lt_of_le e6 hn, (hq sa e4 e6).trans e7, e8⟩
section RE
variable {N : Nat} {C : Nat × Nat} {h : ag_H} {n p k L : Nat} {nv bv : Int32} {st : Nat → Int32} {c : Nat → Nat} {f : Nat → Int32}
theorem c_end (o : rs_ok c f n h) (hN : 42 ≤ N) (hp : p ≤ n) (hL : 75 ≤ L) (hLh : L ≤ h.1) {l : List Int} (hk : l.length < 40) (hr : st_rep st l) (hC1 : h.1 + 2 ≤ C.1) (hC2 : h.2.1 + 50 ≤ C.2) {kk bl : Nat} {r : Option Nat} {hd : Option g_A} {as : List g_A} (s : Bool) (hh : hd_rep (L ≤ ·) h r hd) (hb : al_rep (L ≤ ·) (at_rep (L ≤ ·) h) h bl as) :
    rd_sp n L h (g_end c n kk hd as l nv bv s p) (fn_Rd_read_108 N C 5 (some 3) r (Int32.ofNat kk) (some bl) (if s = true then Int32.ofInt 1 else Int32.ofInt 0) (rs h n p l.length nv bv st)) 2 50 := by
  have key := c_rd108 (nv := nv) (bv := bv) (st := st) (C := C) (kk := kk) o hN hp hk hC1 hC2 (s0 := if s = true then Int32.ofInt 1 else Int32.ofInt 0) (by cases s <;> rfl) r bl
  unfold g_end
  by_cases e1 : g_h c n p = 0
  · by_cases e2 : nv &&& (bv ^^^ (Int32.ofInt (-1))) = 0
    · rw [if_pos e1, if_pos e2, key.1 ⟨e1, e2⟩]
      have hcell : ∀ q, q < h.1 → (ag_up (ag_nw (ag_nw h 5 (.inr (7, [.int 0, .int 0, .null, .null, .null]))) l.length (.inl (0, l.length, .inl (va_cpy st (fun _ => 0) 0 0 l.length)))) h.1 (.inr (7, [.int (Int32.ofNat kk), .int (if s = true then Int32.ofInt 1 else Int32.ofInt 0), ag_rf r, .ref bl, .ref (h.1 + 1)]))).2.2 q = h.2.2 q := fun q hq => (if_neg (by omega)).trans ((if_neg (show q ≠ h.1 + 1 by omega)).trans (if_neg (by omega)))
      have hn : h.1 ≤ (ag_up (ag_nw (ag_nw h 5 (.inr (7, [.int 0, .int 0, .null, .null, .null]))) l.length (.inl (0, l.length, .inl (va_cpy st (fun _ => 0) 0 0 l.length)))) h.1 (.inr (7, [.int (Int32.ofNat kk), .int (if s = true then Int32.ofInt 1 else Int32.ofInt 0), ag_rf r, .ref bl, .ref (h.1 + 1)]))).1 := show h.1 ≤ h.1 + 1 + 1 by omega
      refine ⟨_, h.1, g_s c n p, l.length, nv, bv, st, rfl, ⟨hLh, by omega, show h.1 < h.1 + 1 + 1 by omega, r, bl, h.1 + 1, va_cpy st (fun _ => 0) 0 0 l.length, if_pos rfl, hd_ext hn (fun q _ hq => hcell q hq) hh, bd_ext hn (fun q _ hq => hcell q hq) hb, show L ≤ h.1 + 1 by omega, by omega, show h.1 + 1 < h.1 + 1 + 1 by omega, ?_, ?_⟩, ⟨hn, Nat.le_refl _, show h.2.1 ≤ h.2.1 + 5 + l.length by omega, show h.2.1 + 5 + l.length ≤ h.2.1 + 50 by omega, fun q hq _ _ _ => hcell q (by omega)⟩⟩
      · exact (if_neg (show h.1 + 1 ≠ h.1 by omega)).trans (if_pos rfl)
      · intro i x hx
        have hi : i < l.length := (List.getElem?_eq_some_iff.mp hx).1
        show (if 0 ≤ i ∧ i < 0 + l.length then st (0 + (i - 0)) else 0) = _
        rw [if_pos ⟨by omega, by omega⟩, show 0 + (i - 0) = i by omega]
        exact hr i x hx
    · rw [if_pos e1, if_neg e2, key.2 (fun q => e2 q.2)]
      exact ⟨h, _, _, _, _, _, rfl, fr_L0 _ _ _ _⟩
  · rw [if_neg e1, key.2 (fun q => e1 q.1)]
    exact ⟨h, _, _, _, _, _, rfl, fr_L0 _ _ _ _⟩
theorem c_new (o : rs_ok c f n h) (hC1 : h.1 + 1 ≤ C.1) (hC2 : h.2.1 + 3 ≤ C.2) {α : Type} (F : Int32 × ag_H → Option α) :
    (if (rs h n p k nv bv st).1 + 1 ≤ C.1 ∧ (rs h n p k nv bv st).2.1 + 3 ≤ C.2 then (fn_AL_init N C (rs h n p k nv bv st).1 (ag_nw (rs h n p k nv bv st) 3 (.inr (11, [.null, .int 0, .int 0])))).bind F else none) = F (0, rs (ag_nw h 3 (.inr (11, [.ref 1, .int 0, .int (Int32.ofNat 0)]))) n p k nv bv st) := by
  rw [if_pos ⟨hC1, hC2⟩, al_init (g := rs h n p k nv bv st) (show 2 ≤ h.1 by have := o.1; omega), Option.bind_some, rs_nw o]
  rfl
theorem c_newl (L : Nat) (hLh : L ≤ h.1) (h2 : 2 ≤ h.1) : al_rep (L ≤ ·) (at_rep (L ≤ ·) (ag_nw h 3 (.inr (11, [.ref 1, .int 0, .int (Int32.ofNat 0)])))) (ag_nw h 3 (.inr (11, [.ref 1, .int 0, .int (Int32.ofNat 0)]))) h.1 [] :=
  ⟨hLh, h2, show h.1 < h.1 + 1 by omega, Int32.ofNat 0, Or.inl ⟨rfl, if_pos rfl⟩⟩
theorem fr_Ll {L L' : Nat} {h h' : ag_H} {a b : Nat} (x : fr_L L' h h' a b) (hL : L ≤ L') : fr_L L h h' a b := ⟨x.1, x.2.1, x.2.2.1, x.2.2.2.1, fun q hq => x.2.2.2.2 q (by omega)⟩
theorem c_tail (o : rs_ok c f n h) (hN : 42 ≤ N) (hp : p ≤ n) (h1 : 1 ≤ p) (hL : 75 ≤ L) (hLh : L ≤ h.1) (hC1 : h.1 + 9 ≤ C.1) (hC2 : h.2.1 + 95 ≤ C.2) {kk : Nat} (hk1 : 1 ≤ kk) (hk2 : kk ≤ 5) {r : Option Nat} {hd : Option g_A} (hh : hd_rep (L ≤ ·) h r hd) :
    rd_sp n L h (g_tail c n kk hd nv p) (fn_Rd_read_65 N C 5 (some 3) r (Int32.ofNat kk) (rs h n p 0 nv 0 st)) 9 95 := by
  unfold fn_Rd_read_65 g_tail
  rw [c_new o (by omega) (by omega)]
  dsimp only
  have o1 := rs_oknw (m := 3) (x := .inr (11, [.ref 1, .int 0, .int (Int32.ofNat 0)])) o
  have f1 := fr_Lnw (m := 3) (y := .inr (11, [.ref 1, .int 0, .int (Int32.ofNat 0)])) (Nat.le_refl h.1)
  rw [if_neg (n_ne0 hk1 (by omega)), rs_rc5 o1, Option.bind_some]
  unfold fn_Rd_readBody fn_Rd_readBody_0
  rw [n_0]
  have kb := c_body (N := N) (C := C) (m := nv) (bl := h.1) (L := h.1) hN o.1 3 N 0 p [] 0 (ag_nw h 3 (.inr (11, [.ref 1, .int 0, .int (Int32.ofNat 0)]))) st o1 (by show h.1 ≤ h.1 + 1; omega) (by omega) rfl (by omega) hp (by show h.1 + 1 + 2 * 3 ≤ C.1; omega) (by show h.2.1 + 3 + 14 * 3 ≤ C.2; omega) (c_newl h.1 (Nat.le_refl _) (by omega))
  cases e1 : g_bd c n nv 3 p [] 0 with
  | none =>
    rw [e1] at kb
    obtain ⟨h', p', k', nv', bv', st', hp', kb, fr⟩ := kb
    simp only [show (rs h n p 0 nv 0 st).1 = h.1 from rfl, kb, Option.bind_some, Option.bind_none, n_e00, if_true]
    exact ⟨h', p', k', nv', bv', st', rfl, fr_Ll (fr_Lw (fr_Lt f1 fr) (by omega) (by omega)) hLh⟩
  | some r1 =>
    rw [e1] at kb
    obtain ⟨h', st', kb, kst, kal, fr⟩ := kb
    have hb := g_bd_ok 3 p [] 0 r1 hp e1
    have f2 := fr_Lt f1 fr
    have f3 := fr_Ll f2 hLh
    have o2 := fr_Lok f3 hL o
    have on := o.2.1
    have hh2 : hd_rep (L ≤ ·) h' r hd := hd_ext f2.1 (fun q q1 q2 => f2.2.2.2.2 q q2 (by omega) (by omega) (by omega)) hh
    have kal2 : al_rep (L ≤ ·) (at_rep (L ≤ ·) h') h' h.1 r1.1.1 := al_rep_mono (fun q h1 _ => Nat.le_trans hLh h1) (fun b x _ hb => ⟨Nat.le_trans hLh hb.1, hb.2⟩) kal
    simp only [show (rs h n p 0 nv 0 st).1 = h.1 from rfl, kb, Option.bind_some, if_neg n_ne10]
    unfold fn_Rd_read_90 fn_Rd_read_107
    rw [if_neg (n_ne0 hk1 (by omega)), rs_rc3 o2, Option.bind_some, n_c42, c_takes o2 hN hb.2.1 (by omega)]
    cases e2 : g_t c n r1.2.1 42 with
    | none =>
      simp only [Option.bind_some, n_e00, if_true]
      have ke := c_end (C := C) (nv := r1.2.2.2) (bv := r1.1.2) (kk := kk) o2 hN (g_s_le (c := c) hb.2.1).2 hL (by have := f2.1; omega) (show r1.2.2.1.length < 40 by omega) kst (by have := f2.2.1; omega) (by have := f2.2.2.2.1; omega) false hh2 kal2
      exact rd_spw f3 ke (by omega) (by omega)
    | some p2 =>
      simp only [Option.bind_some, if_neg n_ne10]
      have ke := c_end (C := C) (nv := r1.2.2.2) (bv := r1.1.2) (kk := kk) o2 hN (g_t_ok hb.2.1 (by decide) e2).2 hL (by have := f2.1; omega) (show r1.2.2.1.length < 40 by omega) kst (by have := f2.2.1; omega) (by have := f2.2.2.2.1; omega) true hh2 kal2
      exact rd_spw f3 ke (by omega) (by omega)
/-- the reader: a clause, or nothing -/
theorem c_read (o : rs_ok c f n h) (hN : 42 ≤ N) (hC1 : h.1 + 10 ≤ C.1) (hC2 : h.2.1 + 99 ≤ C.2) : rd_sp n h.1 h (g_rd c n) (fn_Rd_read N C 5 (some 3) (rs h n p k nv bv st)) 10 99 := by
  have o1 := o.1
  have hs := g_s_le (c := c) (Nat.zero_le n)
  unfold fn_Rd_read fn_Rd_read_0 g_rd
  rw [n_0, rs_pp o, Option.bind_some, rs_pk o, Option.bind_some, rs_pn o, Option.bind_some, rs_pb o, Option.bind_some, c_kind o hN (Nat.zero_le n)]
  have sp : ∀ (kk x : Nat), 1 ≤ kk → kk ≤ 5 → x ≠ 0 → g_h c n 0 = x → rd_sp n h.1 h (g_tail c n kk none 0 (g_s c n 0 + 1)) (fn_Rd_read_65 N C 5 (some 3) none (Int32.ofNat kk) (rs h n (g_s c n 0 + 1) 0 0 0 st)) 10 99 := by
    intro kk x h1 h2 h3 h4
    have hlt := g_h_lt (c := c) (n := n) (p := 0) (by omega)
    exact rd_spw (fr_L0 _ _ 1 4) (c_tail (C := C) (nv := 0) (st := st) o hN (show g_s c n 0 + 1 ≤ n by omega) (by omega) o1 (Nat.le_refl _) (by omega) (by omega) h1 h2 (r := none) (hd := none) rfl) (by omega) (by omega)
  by_cases e1 : g_h c n 0 = 63
  · simp only [if_pos e1, Option.bind_some]
    rw [if_neg (by decide)]
    exact sp 2 63 (by omega) (by omega) (by omega) e1
  · simp only [if_neg e1]
    by_cases e2 : g_h c n 0 = 33
    · simp only [if_pos e2, Option.bind_some]
      rw [if_neg (by decide)]
      exact sp 3 33 (by omega) (by omega) (by omega) e2
    · simp only [if_neg e2]
      by_cases e3 : g_h c n 0 = 43
      · simp only [if_pos e3, Option.bind_some]
        rw [if_neg (by decide)]
        exact sp 4 43 (by omega) (by omega) (by omega) e3
      · simp only [if_neg e3]
        by_cases e4 : g_h c n 0 = 45
        · simp only [if_pos e4, Option.bind_some]
          rw [if_neg (by decide)]
          exact sp 5 45 (by omega) (by omega) (by omega) e4
        · simp only [if_neg e4, Option.bind_some]
          rw [if_pos (show Int32.ofNat 0 = 0 from rfl)]
          have ka := c_atom (C := C) (k := 0) (nv := Int32.ofNat 0) (bv := Int32.ofNat 0) (st := st) o hN hs.2 (by omega) (by omega)
          cases e5 : g_at c n (g_s c n 0) with
          | none =>
            rw [e5] at ka
            obtain ⟨q, hq, ka⟩ := ka
            simp only [ka, Option.bind_some, Option.bind_none, if_true]
            exact ⟨h, q, 0, _, _, st, rfl, fr_L0 _ _ _ _⟩
          | some r =>
            rw [e5] at ka
            simp only at ka
            have hg := g_at_ok hs.2 (show g_at c n (g_s c n 0) = some (r.1, r.2) from e5)
            have f1 := fr_Lnw (L := h.1) (m := 4) (y := at_cell r.1) (Nat.le_refl h.1)
            have o2 := rs_oknw (m := 4) (x := at_cell r.1) o
            have hat : at_rep (h.1 ≤ ·) (ag_nw h 4 (at_cell r.1)) h.1 r.1 := ⟨Nat.le_refl _, by omega, show h.1 < h.1 + 1 by omega, if_pos rfl⟩
            have hea : ag_at (rs (ag_nw h 4 (at_cell r.1)) n r.2 0 (Int32.ofNat 0) (Int32.ofNat 0) st) (.ref h.1) = some (at_cell r.1) := pu_at (by omega) (show h.1 < h.1 + 1 by omega) ((rs_big (by omega) (by omega) (by omega)).trans (if_pos rfl))
            simp only [ka, Option.bind_some, if_neg (show ¬ (some h.1 = none) by simp), pu_rc (show ag_at _ (.ref h.1) = some (.inr (6, _)) from hea)]
            rw [c_vars hea (by omega) (by omega)]
            simp only [Option.bind_some, rs_pn o2, rs_rc3 o2]
            rw [n_c61, c_takes o2 hN hg.2.1 (by omega)]
            cases e6 : g_t c n r.2 61 with
            | some p2 =>
              have h6 := g_t_ok hg.2.1 (by decide) e6
              simp only [Option.bind_some, if_neg n_ne10]
              unfold fn_Rd_read_64
              exact rd_spw f1 (c_tail (C := C) (nv := g_vs r.1) (st := st) o2 hN h6.2 (by omega) o1 (by show h.1 ≤ h.1 + 1; omega) (by show h.1 + 1 + 9 ≤ C.1; omega) (by show h.2.1 + 4 + 95 ≤ C.2; omega) (kk := 1) (by omega) (by omega) (r := some h.1) (hd := some r.1) ⟨h.1, rfl, hat⟩) (by omega) (by omega)
            | none =>
              simp only [Option.bind_some, n_e00, if_true]
              unfold fn_Rd_read_64 fn_Rd_read_65
              rw [c_new o2 (by show h.1 + 1 + 1 ≤ C.1; omega) (by show h.2.1 + 4 + 3 ≤ C.2; omega)]
              dsimp only
              unfold fn_Rd_read_90 fn_Rd_read_107
              have o3 := rs_oknw (m := 3) (x := .inr (11, [.ref 1, .int 0, .int (Int32.ofNat 0)])) o2
              have f2 := fr_Lnw (L := h.1) (h := ag_nw h 4 (at_cell r.1)) (m := 3) (y := .inr (11, [.ref 1, .int 0, .int (Int32.ofNat 0)])) (by show h.1 ≤ h.1 + 1; omega)
              rw [if_pos (show Int32.ofNat 0 = 0 from rfl), if_pos (show Int32.ofNat 0 = 0 from rfl)]
              have hat2 : at_rep (h.1 ≤ ·) (ag_nw (ag_nw h 4 (at_cell r.1)) 3 (.inr (11, [.ref 1, .int 0, .int (Int32.ofNat 0)]))) h.1 r.1 := ⟨Nat.le_refl _, by omega, show h.1 < h.1 + 1 + 1 by omega, (if_neg (show h.1 ≠ h.1 + 1 by omega)).trans (if_pos rfl)⟩
              have ke := c_end (C := C) (nv := g_vs r.1) (bv := 0) (kk := 0) (st := st) o3 hN (g_s_le (c := c) hg.2.1).2 o1 (by show h.1 ≤ h.1 + 1 + 1; omega) (l := []) (by decide) (fun i x e => by cases e) (by show h.1 + 1 + 1 + 2 ≤ C.1; omega) (by show h.2.1 + 4 + 3 + 50 ≤ C.2; omega) false (r := some h.1) (hd := some r.1) (as := []) ⟨h.1, rfl, hat2⟩ (c_newl (h := ag_nw h 4 (at_cell r.1)) h.1 (by show h.1 ≤ h.1 + 1; omega) (by show 2 ≤ h.1 + 1; omega))
              exact rd_spw (fr_Lt f1 f2) ke (by omega) (by omega)
end RE
