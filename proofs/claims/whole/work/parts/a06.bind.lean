/-! ### A clause's body is searched -/
abbrev j_S : Type := (List j_R × Bool) × (Bool × Bool × Bool)
def j_fin (room : Nat) (x : g_Cl) (s : j_S) (oc : Int32 × (Nat → Int32)) : j_S :=
  if j_wk oc.2 x.2.2.2.2 [] = 1 then ((match x.2.2.1 with
    | none => s.1
    | some y => j_off room (Int32.ofNat y.1, Int32.ofNat y.2.1, j_val oc.2 y.2.2.1, j_val oc.2 y.2.2.2, oc.1) s.1.1 s.1.2), (true, s.2.2.1, s.2.2.2))
  else (s.1, (s.2.1, true, s.2.2.2 || decide (j_wk oc.2 x.2.2.2.2 [] = 2)))
/-- once there are too many facts, nothing more is done -/
def j_fing (room : Nat) (x : g_Cl) (s : j_S) (oc : Int32 × (Nat → Int32)) : j_S := if s.1.2 = true then s else j_fin room x s oc
def j_run (room : Nat) (x : g_Cl) (L : List (Int32 × (Nat → Int32))) (s : j_S) : j_S := L.foldl (j_fing room x) s
theorem j_wk_le (v : Nat → Int32) : ∀ (xs : List Int) (st : List Int32), j_wk v xs st ≤ 2
  | [], st => by unfold j_wk; omega
  | x :: xs, st => by
    unfold j_wk
    split
    · exact j_wk_le v xs _
    · split
      · split
        · split
          · exact j_wk_le v xs _
          · omega
        · split
          · omega
          · exact j_wk_le v xs _
      · omega
def j_bm : List g_A → Nat
  | [] => 0
  | a :: as => (if a.2.2.1 < 1048576 then 0 else 2 ^ j_ix a.2.2.1) ||| ((if a.2.2.2 < 1048576 then 0 else 2 ^ j_ix a.2.2.2) ||| j_bm as)
theorem j_ft_mono {t : Int} {x : Int32} {m : Nat} {v : Nat → Int32} {r : Nat × (Nat → Int32)} (h : j_ft t x m v = some r) : r.1 = m ||| (if t < 1048576 then 0 else 2 ^ j_ix t) ∧ ∀ i, m.testBit i = true → r.2 i = v i := by
  unfold j_ft at h
  split at h
  · next e =>
    split at h
    · cases h; rw [if_pos e]; exact ⟨by simp, fun _ _ => rfl⟩
    · cases h
  · next e =>
    rw [if_neg e]
    split at h
    · next eb =>
      split at h
      · cases h
        refine ⟨?_, fun _ _ => rfl⟩
        apply Nat.eq_of_testBit_eq
        intro i
        rw [Nat.testBit_or, Nat.testBit_two_pow]
        by_cases ei : j_ix t = i
        · subst ei; simp [eb]
        · simp [ei]
      · cases h
    · next eb =>
      cases h
      refine ⟨rfl, fun i hi => upd_ne (fun q => eb (q ▸ hi))⟩
theorem j_fit_mono {a : g_A} {r : j_R} {tr : Int32} {m : Nat} {v : Nat → Int32} {p : Nat × (Nat → Int32)} (h : j_fit a r tr m v = some p) : p.1 ||| 0 = m ||| ((if a.2.2.1 < 1048576 then 0 else 2 ^ j_ix a.2.2.1) ||| (if a.2.2.2 < 1048576 then 0 else 2 ^ j_ix a.2.2.2)) ∧ ∀ i, m.testBit i = true → p.2 i = v i := by
  unfold j_fit at h
  split at h
  · obtain ⟨p1, e1, h⟩ := md_bd h
    obtain ⟨k1, k2⟩ := j_ft_mono e1
    obtain ⟨k3, k4⟩ := j_ft_mono h
    refine ⟨?_, fun i hi => ?_⟩
    · rw [k3, k1, Nat.or_zero, Nat.or_assoc]
    · rw [k4 i (by rw [k1, Nat.testBit_or, hi]; rfl), k2 i hi]
  · cases h
/-- what the judge asks of a clause -/
def cl_ok (x : g_Cl) : Prop := x.2.2.2.1.length ≤ 3 ∧ (∀ a, a ∈ x.2.2.2.1 → j_tv a.2.2.1 ∧ j_tv a.2.2.2) ∧ (∀ y, x.2.2.1 = some y → j_tv y.2.2.1 ∧ j_tv y.2.2.2 ∧ (¬ y.2.2.1 < 1048576 → (j_bm x.2.2.2.1).testBit (j_ix y.2.2.1) = true) ∧ (¬ y.2.2.2 < 1048576 → (j_bm x.2.2.2.1).testBit (j_ix y.2.2.2) = true)) ∧ x.2.2.2.2.length ≤ 40 ∧ wdp x.2.2.2.2 0 ≠ none ∧ (∀ z, z ∈ x.2.2.2.2 → j_sv z) ∧ (∀ z, z ∈ x.2.2.2.2 → ¬ z < 1048576 → (j_bm x.2.2.2.1).testBit (j_ix z) = true)
/-- the values that are bound are small -/
def v_bd (m : Nat) (v : Nat → Int32) : Prop := ∀ i, i < 8 → m.testBit i = true → -9999 ≤ (v i).toInt ∧ (v i).toInt ≤ 9999
theorem j_or_b (v : Bool) : j_b v ||| Int32.ofInt 1 = j_b true ∧ j_b v ||| Int32.ofInt 0 = j_b v := by cases v <;> decide
section BI
variable {N : Nat} {C : Nat × Nat} {g : ag_H} {re rd un : Int32} {kn : Nat} {rf tr : Int32} {room : Nat} {rv : Nat → Option Nat} {ra : Nat → Nat}
theorem c_finish (o : 75 ≤ g.1) (hN : 60 ≤ N) (hra : ra_ok rv ra) (hroom : room ≤ 30) {x : g_Cl} {a : Nat} (hx : cl_rep (46 ≤ ·) g a x) (hok : cl_ok x) {s : j_S} {rw : Nat → Nat → Int32} {va sk v : Nat → Int32} (hG : fa_rep rw ra s.1.1) {m : Nat} (ha : av m va v) (hm : ∀ i, (j_bm x.2.2.2.1).testBit i = true → m.testBit i = true) (hvb : v_bd m v) (og : Int32) :
    ∃ rw' sk', fn_Jg_finish N C 7 (some a) og (js g re rd un kn rf tr (j_b s.2.1) (j_b s.2.2.1) (j_b s.2.2.2) s.1.1.length (j_b s.1.2) room rv rw va sk) = some (0, js g re rd un kn rf tr (j_b (j_fin room x s (og, v)).2.1) (j_b (j_fin room x s (og, v)).2.2.1) (j_b (j_fin room x s (og, v)).2.2.2) (j_fin room x s (og, v)).1.1.length (j_b (j_fin room x s (og, v)).1.2) room rv rw' va sk') ∧ fa_rep rw' ra (j_fin room x s (og, v)).1.1 := by
  obtain ⟨p1, p2, p3, r, bl, sa, sv, e1, e2, e3, e4, e5, e6, e7, e8⟩ := hx
  obtain ⟨o1, o2, o3, o4, o5, o6, o7⟩ := hok
  have ix8 : ∀ t, j_tv t → ¬ t < 1048576 → j_ix t < 8 := fun t h1 h2 => (j_ix_lt h1 h2).1
  have svtv : ∀ z, j_sv z → ¬ z < 1048576 → j_tv z := by
    intro z h1 h2
    rcases h1 with ⟨-, h⟩ | h
    · exact h
    · omega
  have hva : ∀ z, z ∈ x.2.2.2.2 → ¬ z < 1048576 → va (j_ix z) = v (j_ix z) ∧ j_bd (v (j_ix z)) := by
    intro z hz hn
    have h8 := ix8 z (svtv z (o6 z hz) hn) hn
    have hb := hm _ (o7 z hz hn)
    have hv := hvb _ h8 hb
    exact ⟨ha _ h8 hb, by unfold j_bd; omega⟩
  have ea : ∀ he mi fa sz ov rw va sk, ag_at (js g re rd un kn rf tr he mi fa sz ov room rv rw va sk) (.ref a) = some (.inr (7, [.int (Int32.ofNat x.1), .int (if x.2.1 = true then Int32.ofInt 1 else Int32.ofInt 0), ag_rf r, .ref bl, .ref sa])) := fun he mi fa sz ov rw va sk => pu_at p2 p3 ((js_big (Or.inl p1)).trans e1)
  obtain ⟨sk', kw⟩ := c_work (N := N) (C := C) (re := re) (rd := rd) (un := un) (kn := kn) (rf := rf) (tr := tr) (he := j_b s.2.1) (mi := j_b s.2.2.1) (fa := j_b s.2.2.2) (sz := s.1.1.length) (ov := j_b s.1.2) (room := room) (rv := rv) (rw := rw) (sk := sk) o hN e4 e6 e7 e8 o4 o5 o6 hva
  have hle := j_wk_le v x.2.2.2.2 []
  unfold fn_Jg_finish fn_Jg_finish_0
  rw [pu_gr (k := 4) (ea _ _ _ _ _ _ _ _) rfl, Option.bind_some, js_rc7 o, Option.bind_some, kw, Option.bind_some]
  dsimp only
  unfold j_fin
  dsimp only
  by_cases k1 : j_wk v x.2.2.2.2 [] = 1
  · rw [k1, if_pos (show j_out 1 = Int32.ofInt 1 from rfl), if_pos rfl, js_p7_11 o n_b1, Option.bind_some]
    dsimp only
    cases hh : x.2.2.1 with
    | none =>
      rw [hh] at e2
      have hrn : r = none := e2
      subst hrn
      rw [pu_gn (k := 2) (ea _ _ _ _ _ _ _ _) rfl, Option.bind_some, if_pos rfl]
      exact ⟨rw, sk', rfl, hG⟩
    | some y =>
      rw [hh] at e2
      obtain ⟨b, hb, q1, q2, q3, q4⟩ := e2
      subst hb
      obtain ⟨t1, t2, t3, t4⟩ := o3 y hh
      have eb : ∀ he mi fa sz ov rw va sk, ag_at (js g re rd un kn rf tr he mi fa sz ov room rv rw va sk) (.ref b) = some (.inr (6, [.int (Int32.ofNat y.1), .int (Int32.ofNat y.2.1), .int (Int32.ofInt y.2.2.1), .int (Int32.ofInt y.2.2.2)])) := fun he mi fa sz ov rw va sk => pu_at q2 q3 ((js_big (Or.inl q1)).trans q4)
      have hv1 : j_val va y.2.2.1 = j_val v y.2.2.1 := by
        unfold j_val
        by_cases q : y.2.2.1 < 1048576
        · rw [if_pos q, if_pos q]
        · rw [if_neg q, if_neg q, ha _ (ix8 _ t1 q) (hm _ (t3 q))]
      have hv2 : j_val va y.2.2.2 = j_val v y.2.2.2 := by
        unfold j_val
        by_cases q : y.2.2.2 < 1048576
        · rw [if_pos q, if_pos q]
        · rw [if_neg q, if_neg q, ha _ (ix8 _ t2 q) (hm _ (t4 q))]
      rw [pu_gr (k := 2) (ea _ _ _ _ _ _ _ _) rfl, Option.bind_some, if_neg (by simp), js_r7_0 o, Option.bind_some, pu_gi (k := 2) (eb _ _ _ _ _ _ _ _) rfl, Option.bind_some, js_rc7 o, Option.bind_some, c_val o t1, Option.bind_some]
      dsimp only
      rw [pu_gi (k := 3) (eb _ _ _ _ _ _ _ _) rfl, Option.bind_some, js_rc7 o, Option.bind_some, c_val o t2, Option.bind_some]
      dsimp only
      rw [js_rc8 o, Option.bind_some, hv1, hv2]
      obtain ⟨rw', ko, kr⟩ := c_offer (N := N) (C := C) (re := re) (rd := rd) (un := un) (kn := kn) (rf := rf) (tr := tr) (he := Int32.ofInt 1) (mi := j_b s.2.2.1) (fa := j_b s.2.2.2) (va := va) (sk := sk') o hN hra hG hroom s.1.2 q1 q3 q4 (j_val v y.2.2.1) (j_val v y.2.2.2) og
      rw [ko, Option.bind_some]
      exact ⟨rw', sk', rfl, kr⟩
  · rw [if_neg k1]
    have ko : ¬ j_out (j_wk v x.2.2.2.2 []) = Int32.ofInt 1 := by
      unfold j_out
      rw [if_neg k1]
      split <;> decide
    rw [if_neg ko, js_p7_12 o n_b1, Option.bind_some, js_g7_13 o, Option.bind_some]
    unfold fn_Jg_finish_34
    by_cases k2 : j_wk v x.2.2.2.2 [] = 2
    · rw [k2, if_pos (show j_out 2 = Int32.ofInt (-1) from rfl), (j_or_b _).1, js_p7_13 o (j_b01 _), Option.bind_some]
      refine ⟨rw, sk', ?_, hG⟩
      simp
      rfl
    · have k0 : j_wk v x.2.2.2.2 [] = 0 := by omega
      rw [k0, if_neg (show ¬ j_out 0 = Int32.ofInt (-1) by decide), (j_or_b _).2, js_p7_13 o (j_b01 _), Option.bind_some]
      refine ⟨rw, sk', ?_, hG⟩
      simp
      rfl
end BI
