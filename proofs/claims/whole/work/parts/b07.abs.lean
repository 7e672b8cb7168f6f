/-! ### Guarded and unguarded runs; the clauses in one row -/
def wok (room : Nat) (w : j_W) : Prop := w.1.length ≤ room ∧ (w.2 = true → w.1.length = room)
theorem j_off_wok {room : Nat} {r : j_R} {w : j_W} (h : wok room w) : wok room (j_off room r w.1 w.2) := by
  obtain ⟨h1, h2⟩ := h
  unfold j_off
  by_cases e : r ∈ w.1
  · rw [if_pos e]; exact ⟨h1, h2⟩
  · rw [if_neg e]
    by_cases e2 : room ≤ w.1.length
    · rw [if_pos e2]
      exact ⟨h1, fun _ => by show w.1.length = room; omega⟩
    · rw [if_neg e2]
      refine ⟨?_, fun q => ?_⟩
      · show (w.1 ++ [r]).length ≤ room
        rw [List.length_append]
        show w.1.length + 1 ≤ room
        omega
      · have := h2 q
        omega
theorem j_add_wok {room : Nat} {x : g_Cl} {w : j_W} {oc : Int32 × (Nat → Int32)} (h : wok room w) : wok room (j_add room x w oc) := by
  unfold j_add
  split
  · split
    · exact h
    · exact j_off_wok h
  · exact h
theorem j_add_ov {room : Nat} {x : g_Cl} {w : j_W} {oc : Int32 × (Nat → Int32)} (h : wok room w) (hv : w.2 = true) : j_add room x w oc = w := by
  unfold j_add
  split
  · split
    · rfl
    · rw [hv, j_off_ov (by rw [h.2 hv]; exact Nat.le_refl _), ← hv]
  · rfl
theorem m_W_wok {add : Bool} {room : Nat} {x : g_Cl} : ∀ (L : List (Int32 × (Nat → Int32))) {w : j_W}, wok room w → wok room (m_W add room x w L) := by
  intro L
  cases add with
  | false => exact fun h => h
  | true =>
    induction L with
    | nil => exact fun h => h
    | cons oc L ih => exact fun h => ih (j_add_wok h)
theorem m_W_ov {room : Nat} {x : g_Cl} : ∀ (L : List (Int32 × (Nat → Int32))) {w : j_W}, wok room w → w.2 = true → m_W true room x w L = w := by
  intro L
  induction L with
  | nil => exact fun _ _ => rfl
  | cons oc L ih =>
    intro w h hv
    show m_W true room x (j_add room x w oc) L = w
    rw [j_add_ov h hv]
    exact ih h hv
theorem j_fin_eq (room : Nat) (x : g_Cl) (s : j_S) (oc : Int32 × (Nat → Int32)) : j_fin room x s oc = (j_add room x s.1 oc, j_fl1 x s.2 oc) := by
  unfold j_fin j_add j_fl1 j_hr
  by_cases e : j_wk oc.2 x.2.2.2.2 [] = 1
  · rw [if_pos e, if_pos e, e]
    obtain ⟨w, f1, f2, f3⟩ := s
    cases f1 <;> cases f2 <;> cases f3 <;> rfl
  · rw [if_neg e, if_neg e]
    have d1 : decide (j_wk oc.2 x.2.2.2.2 [] = 1) = false := decide_eq_false e
    have d2 : decide (¬ j_wk oc.2 x.2.2.2.2 [] = 1) = true := decide_eq_true e
    rw [d1, d2]
    obtain ⟨w, f1, f2, f3⟩ := s
    cases f1 <;> cases f2 <;> cases f3 <;> rfl
theorem j_run_split {room : Nat} {x : g_Cl} : ∀ (L : List (Int32 × (Nat → Int32))) (s : j_S), wok room s.1 → (j_run room x L s).1 = m_W true room x s.1 L ∧ ((m_W true room x s.1 L).2 = false → (j_run room x L s).2 = m_Fl x s.2 L) := by
  intro L
  induction L with
  | nil => exact fun s _ => ⟨rfl, fun _ => rfl⟩
  | cons oc L ih =>
    intro s h
    show (j_run room x L (j_fing room x s oc)).1 = m_W true room x (j_add room x s.1 oc) L ∧ ((m_W true room x (j_add room x s.1 oc) L).2 = false → (j_run room x L (j_fing room x s oc)).2 = m_Fl x (j_fl1 x s.2 oc) L)
    unfold j_fing
    by_cases e : s.1.2 = true
    · rw [if_pos e, j_run_ov L e, j_add_ov h e, m_W_ov L h e]
      exact ⟨rfl, fun q => by rw [e] at q; cases q⟩
    · rw [if_neg e, j_fin_eq]
      exact ih (j_add room x s.1 oc, j_fl1 x s.2 oc) (j_add_wok h)
theorem m_W_mono {add : Bool} {room : Nat} {x : g_Cl} {L : List (Int32 × (Nat → Int32))} {w : j_W} (h : wok room w) (hv : (m_W add room x w L).2 = false) : w.2 = false := by
  cases hw : w.2 with
  | false => rfl
  | true =>
    cases add with
    | false => rw [← hw]; exact hv
    | true => rw [m_W_ov L h hw, hw] at hv; cases hv
abbrev f000 : j_F := (false, false, false)
theorem m_Fl_an (x : g_Cl) : ∀ (L : List (Int32 × (Nat → Int32))) (f : j_F), ((m_Fl x f L).1 || (m_Fl x f L).2.1) = ((f.1 || f.2.1) || !L.isEmpty) := by
  intro L
  induction L with
  | nil =>
    intro f
    show (f.1 || f.2.1) = _
    cases f.1 <;> cases f.2.1 <;> rfl
  | cons oc L ih =>
    intro f
    show ((m_Fl x (j_fl1 x f oc) L).1 || (m_Fl x (j_fl1 x f oc) L).2.1) = _
    rw [ih]
    unfold j_fl1
    by_cases e : j_wk oc.2 x.2.2.2.2 [] = 1
    · simp [e]
    · simp [e]
def j_Q : Nat → List (List g_Cl) → List (Nat × g_Cl)
  | _, [] => []
  | p, L :: Ls => L.map (fun x => (p, x)) ++ j_Q (p + 1) Ls
theorem j_layQ (room : Nat) : ∀ (Ps : List (List g_Cl)) (p : Nat) (w : j_W), j_layP room p Ps w = (j_Q p Ps).foldl (fun w q => j_lay1 room q.1 w q.2) w
  | [], p, w => rfl
  | L :: Ls, p, w => by
    show j_layP room (p + 1) Ls (j_layB room p L w) = (L.map (fun x => (p, x)) ++ j_Q (p + 1) Ls).foldl _ w
    rw [List.foldl_append, List.foldl_map, j_layQ room Ls]
    rfl
theorem j_rndQ (room : Nat) (F : List j_R) : ∀ (Ps : List (List g_Cl)) (p : Nat) (z : j_W × Bool), j_rndP room F p Ps z = (j_Q p Ps).foldl (fun z q => j_rnd1 room F q.1 z q.2) z
  | [], p, z => rfl
  | L :: Ls, p, z => by
    show j_rndP room F (p + 1) Ls (j_rndB room F p L z) = (L.map (fun x => (p, x)) ++ j_Q (p + 1) Ls).foldl _ z
    rw [List.foldl_append, List.foldl_map, j_rndQ room F Ls]
    rfl
theorem j_chkQ (room : Nat) (F : List j_R) (w : j_W) : ∀ (Ps : List (List g_Cl)) (p : Nat) (z : j_K), j_chkP room F w p Ps z = (j_Q p Ps).foldl (fun z q => j_chk1 room F w q.1 z q.2) z
  | [], p, z => rfl
  | L :: Ls, p, z => by
    show j_chkP room F w (p + 1) Ls (j_chkB room F w p L z) = (L.map (fun x => (p, x)) ++ j_Q (p + 1) Ls).foldl _ z
    rw [List.foldl_append, List.foldl_map, j_chkQ room F w Ls]
    rfl
/-- what holds of each clause -/
def x_ok (x : g_Cl) : Prop := cl_ok x ∧ x.1 ≤ 5 ∧ (x.1 ≤ 1 → ∃ y, x.2.2.1 = some y) ∧ (x.1 ≠ 0 → 1 ≤ x.2.2.2.1.length) ∧ (2 ≤ x.1 → x.2.2.1 = none) ∧ (∀ y, x.2.2.1 = some y → a_sz y ∧ y.1 < 26) ∧ (∀ a, a ∈ x.2.2.2.1 → a_sz a ∧ a.1 < 26) ∧ (x.1 = 0 → x.2.2.2.1 = [])
def q_rep (S : MS) (Q : List (Nat × g_Cl)) : Prop := S.1 15 = Int32.ofNat Q.length ∧ Q.length ≤ 30 ∧ ∀ (c p : Nat) (x : g_Cl), Q[c]? = some (p, x) → S.2 10 c = Int32.ofNat p ∧ mc_rep S c x ∧ x_ok x
def rows_ok (w : j_W) : Prop := ∀ r, r ∈ w.1 → r_bd r ∧ r_sz r
theorem r_sz_hr {y : g_A} (h : a_sz y) (oc : Int32 × (Nat → Int32)) : r_sz (j_hr y oc) := by
  obtain ⟨z1, z2, z3⟩ := h
  have v0 : ∀ v : Nat → Int32, j_val v 0 = 0 := fun v => rfl
  refine ⟨fun q => ?_, fun q => ?_⟩
  · have q : Int32.ofNat y.2.1 = Int32.ofNat 0 := q
    rw [n_eq (by omega) (by omega)] at q
    show j_val oc.2 y.2.2.1 = 0 ∧ j_val oc.2 y.2.2.2 = 0
    rw [z3 q, z2 (by omega)]
    exact ⟨rfl, rfl⟩
  · have q : Int32.ofNat y.2.1 = Int32.ofNat 1 := q
    rw [n_eq (by omega) (by omega)] at q
    show j_val oc.2 y.2.2.2 = 0
    rw [z2 (by omega)]
    rfl
theorem rows_off {room : Nat} {r : j_R} {w : j_W} (h : rows_ok w) (hr : r_bd r ∧ r_sz r) : rows_ok (j_off room r w.1 w.2) := by
  unfold j_off
  split
  · exact h
  · split
    · exact h
    · intro q hq
      rcases List.mem_append.mp hq with hq | hq
      · exact h q hq
      · rw [List.mem_singleton.mp hq]; exact hr
theorem rows_add {room : Nat} {x : g_Cl} (hx : x_ok x) {w : j_W} {oc : Int32 × (Nat → Int32)} (hb : v_bd (j_bm x.2.2.2.1) oc.2) (h : rows_ok w) : rows_ok (j_add room x w oc) := by
  unfold j_add
  split
  · split
    · exact h
    · next y hy =>
      obtain ⟨q1, q2, q3, q4⟩ := hx.1.2.2.1 y hy
      exact rows_off h ⟨⟨j_val_bd hb q1 q3, j_val_bd hb q2 q4⟩, r_sz_hr (hx.2.2.2.2.2.1 y hy).1 oc⟩
  · exact h
theorem rows_W {add : Bool} {room : Nat} {x : g_Cl} (hx : x_ok x) : ∀ (L : List (Int32 × (Nat → Int32))) {w : j_W}, (∀ oc, oc ∈ L → v_bd (j_bm x.2.2.2.1) oc.2) → rows_ok w → rows_ok (m_W add room x w L) := by
  intro L
  cases add with
  | false => exact fun _ h => h
  | true =>
    induction L with
    | nil => exact fun _ h => h
    | cons oc L ih => exact fun hb h => ih (fun q hq => hb q (List.mem_cons_of_mem _ hq)) (rows_add hx (hb oc List.mem_cons_self) h)
theorem m_L_bd {x : g_Cl} {p : Nat} {F : List j_R} (hF : ∀ r, r ∈ F → r_bd r ∧ r_sz r) : ∀ oc, oc ∈ m_L x p F → v_bd (j_bm x.2.2.2.1) oc.2 := by
  intro oc h
  have := j_all_bd (fun r hr => (hF r hr).1) x.2.2.2.1 0 (fun _ => 0) (j_own p) (fun i _ hb => by rw [Nat.zero_testBit] at hb; cases hb) oc h
  rw [Nat.zero_or] at this
  exact this
/-- one round over all clauses, as the reference does it -/
def m_rn1 (room : Nat) (F : List j_R) (w : j_W) (q : Nat × g_Cl) : j_W := if q.2.1 = 1 then m_W true room q.2 w (m_L q.2 q.1 F) else w
def q_fl (F : List j_R) (q : Nat × g_Cl) : j_F := m_Fl q.2 f000 (m_L q.2 q.1 F)
theorem m_rn1_wok {room : Nat} {F : List j_R} {w : j_W} {q : Nat × g_Cl} (h : wok room w) : wok room (m_rn1 room F w q) := by
  unfold m_rn1
  split
  · exact m_W_wok _ h
  · exact h
theorem m_rn1_mono {room : Nat} {F : List j_R} {w : j_W} {q : Nat × g_Cl} (h : wok room w) (hv : (m_rn1 room F w q).2 = false) : w.2 = false := by
  unfold m_rn1 at hv
  split at hv
  · exact m_W_mono h hv
  · exact hv
theorem m_rnd_mono {room : Nat} {F : List j_R} : ∀ (Q : List (Nat × g_Cl)) {w : j_W}, wok room w → (Q.foldl (m_rn1 room F) w).2 = false → w.2 = false
  | [], w, _, h => h
  | q :: Q, w, hw, h => m_rn1_mono hw (m_rnd_mono Q (m_rn1_wok hw) h)
theorem m_rnd_wok {room : Nat} {F : List j_R} : ∀ (Q : List (Nat × g_Cl)) {w : j_W}, wok room w → wok room (Q.foldl (m_rn1 room F) w)
  | [], w, h => h
  | q :: Q, w, h => m_rnd_wok Q (m_rn1_wok h)
theorem j_rnd_split {room : Nat} {F : List j_R} : ∀ (Q : List (Nat × g_Cl)) (z : j_W × Bool), wok room z.1 → (Q.foldl (fun z q => j_rnd1 room F q.1 z q.2) z).1 = Q.foldl (m_rn1 room F) z.1 ∧ ((Q.foldl (m_rn1 room F) z.1).2 = false → (Q.foldl (fun z q => j_rnd1 room F q.1 z q.2) z).2 = (z.2 || Q.any fun q => decide (q.2.1 = 1) && (q_fl F q).2.2))
  | [], z, _ => ⟨rfl, fun _ => by show z.2 = (z.2 || false); cases z.2 <;> rfl⟩
  | q :: Q, z, h => by
    have k1 : (j_rnd1 room F q.1 z q.2).1 = m_rn1 room F z.1 q := by
      unfold j_rnd1 m_rn1
      by_cases e : q.2.1 = 1
      · rw [if_pos e, if_pos e]
        exact (j_run_split (m_L q.2 q.1 F) (z.1, f000) h).1
      · rw [if_neg e, if_neg e]
    have hw : wok room (j_rnd1 room F q.1 z q.2).1 := by rw [k1]; exact m_rn1_wok h
    obtain ⟨i1, i2⟩ := j_rnd_split Q (j_rnd1 room F q.1 z q.2) hw
    rw [k1] at i1 i2
    refine ⟨i1, fun hv => ?_⟩
    rw [show (List.foldl (fun z q => j_rnd1 room F q.1 z q.2) z (q :: Q)) = List.foldl (fun z q => j_rnd1 room F q.1 z q.2) (j_rnd1 room F q.1 z q.2) Q from rfl, i2 hv, List.any_cons]
    have hv2 : (m_rn1 room F z.1 q).2 = false := m_rnd_mono Q (m_rn1_wok h) hv
    have k2 : (j_rnd1 room F q.1 z q.2).2 = (z.2 || (decide (q.2.1 = 1) && (q_fl F q).2.2)) := by
      unfold j_rnd1
      by_cases e : q.2.1 = 1
      · rw [if_pos e, decide_eq_true e, Bool.true_and]
        unfold m_rn1 at hv2
        rw [if_pos e] at hv2
        have := (j_run_split (m_L q.2 q.1 F) (z.1, f000) h).2 hv2
        show (z.2 || (j_run room q.2 (m_L q.2 q.1 F) (z.1, f000)).2.2.2) = _
        rw [this]
        rfl
      · rw [if_neg e, decide_eq_false e]
        cases z.2 <;> rfl
    rw [k2, Bool.or_assoc]
