/-! ### What a judging gives -/
theorem j_lay1_hr {room p : Nat} {w : j_W} {x : g_Cl} (hx : x_ok x) : j_lay1 room p w x = w ∨ ∃ y, x.1 = 0 ∧ x.2.2.1 = some y ∧ (y.2.2.1 < 1048576 ∧ y.2.2.2 < 1048576) ∧ j_lay1 room p w x = j_off room (j_hr y (j_own p, fun _ => 0)) w.1 w.2 := by
  by_cases e : x.1 = 0
  · obtain ⟨y, hy⟩ := hx.2.2.1 (by omega)
    have hb := hx.2.2.2.2.2.2.2 e
    obtain ⟨q1, q2, q3, q4⟩ := hx.1.2.2.1 y hy
    rw [hb] at q3 q4
    have z : ∀ k, (j_bm []).testBit k = true → False := fun k h => by
      have : j_bm [] = 0 := rfl
      rw [this, Nat.zero_testBit] at h
      cases h
    have a1 : y.2.2.1 < 1048576 := Decidable.byContradiction fun c => z _ (q3 c)
    have a2 : y.2.2.2 < 1048576 := Decidable.byContradiction fun c => z _ (q4 c)
    refine Or.inr ⟨y, e, hy, ⟨a1, a2⟩, ?_⟩
    unfold j_lay1 j_hr j_val
    rw [if_pos e, hy, if_pos a1, if_pos a2]
  · left
    unfold j_lay1
    rw [if_neg e]
theorem rows_lay1 {room p : Nat} {w : j_W} {x : g_Cl} (hx : x_ok x) (h : rows_ok w) : rows_ok (j_lay1 room p w x) := by
  rcases j_lay1_hr (room := room) (p := p) (w := w) hx with e | ⟨y, e0, hy, ⟨a1, a2⟩, e⟩
  · rw [e]; exact h
  · rw [e]
    obtain ⟨q1, q2, q3, q4⟩ := hx.1.2.2.1 y hy
    have vb : v_bd 0 (fun _ => (0 : Int32)) := fun i _ hb => by rw [Nat.zero_testBit] at hb; cases hb
    exact rows_off h ⟨⟨j_val_bd vb q1 (fun c => absurd a1 c), j_val_bd vb q2 (fun c => absurd a2 c)⟩, r_sz_hr (hx.2.2.2.2.2.1 y hy).1 _⟩
theorem wok_lay1 {room p : Nat} {w : j_W} {x : g_Cl} (h : wok room w) : wok room (j_lay1 room p w x) := by
  unfold j_lay1
  split
  · split
    · exact j_off_wok h
    · exact h
  · exact h
theorem nd_off {room : Nat} {r : j_R} {w : j_W} (h : w.1.Nodup) : (j_off room r w.1 w.2).1.Nodup := by
  unfold j_off
  split
  · exact h
  · next hn =>
    split
    · exact h
    · show (w.1 ++ [r]).Nodup
      unfold List.Nodup at h ⊢
      rw [List.pairwise_append]
      refine ⟨h, List.pairwise_singleton _ _, fun a ha b hb e => ?_⟩
      rw [List.mem_singleton.mp hb] at e
      exact hn (e ▸ ha)
theorem nd_lay1 {room p : Nat} {w : j_W} {x : g_Cl} (h : w.1.Nodup) : (j_lay1 room p w x).1.Nodup := by
  unfold j_lay1
  split
  · split
    · exact nd_off h
    · exact h
  · exact h
theorem nd_add {room : Nat} {x : g_Cl} {w : j_W} {oc : Int32 × (Nat → Int32)} (h : w.1.Nodup) : (j_add room x w oc).1.Nodup := by
  unfold j_add
  split
  · split
    · exact h
    · exact nd_off h
  · exact h
theorem nd_W {add : Bool} {room : Nat} {x : g_Cl} : ∀ (L : List (Int32 × (Nat → Int32))) {w : j_W}, w.1.Nodup → (m_W add room x w L).1.Nodup := by
  intro L
  cases add with
  | false => exact fun h => h
  | true =>
    induction L with
    | nil => exact fun h => h
    | cons oc L ih => exact fun h => ih (nd_add h)
theorem nd_rnd {room : Nat} {F : List j_R} : ∀ (Q : List (Nat × g_Cl)) {w : j_W}, w.1.Nodup → (Q.foldl (m_rn1 room F) w).1.Nodup
  | [], w, h => h
  | q :: Q, w, h => by
    refine nd_rnd Q ?_
    unfold m_rn1
    split
    · exact nd_W _ h
    · exact h
theorem nd_set {room : Nat} {Q : List (Nat × g_Cl)} : ∀ (k : Nat) (w : j_W) (n : Nat), w.1.Nodup → (m_set room Q k w n).2.1.1.Nodup
  | 0, w, n, h => h
  | k + 1, w, n, h => by
    unfold m_set
    split
    · exact h
    · split
      · exact nd_rnd Q h
      · exact nd_set k _ _ (nd_rnd Q h)
theorem lay_ind {room : Nat} (P : j_W → Prop) : ∀ (Q : List (Nat × g_Cl)) (w : j_W), P w → (∀ w q, q ∈ Q → P w → P (j_lay1 room q.1 w q.2)) → P (Q.foldl (fun w q => j_lay1 room q.1 w q.2) w)
  | [], w, h, _ => h
  | q :: Q, w, h, hs => lay_ind P Q _ (hs w q (List.mem_cons_self ..) h) (fun w q' hq => hs w q' (List.mem_cons_of_mem _ hq))
abbrev w_J : Type := Int32 × Nat × Int32 × List j_R
def s_w0 (Ps : List (List g_Cl)) (most : Nat) : j_W := j_layP most 0 Ps ([], false)
def s_m (Ps : List (List g_Cl)) (most more : Nat) : Bool × j_W × Nat := m_set most (j_Q 0 Ps) more (s_w0 Ps most) 0
def s_a (Ps : List (List g_Cl)) (F : List j_R) : Int32 := d_ans ((j_Q 0 Ps).foldl (d_1 F) (false, 0, Int32.ofInt 0, false)) (d_pol F (j_Q 0 Ps) 0)
def s_u (Ps : List (List g_Cl)) (F : List j_R) : Int32 := if s_a Ps F = (Int8.ofInt (-4)).toInt32 then ((j_Q 0 Ps).foldl (d_1 F) (false, 0, Int32.ofInt 0, false)).2.2.1 else Int32.ofInt 0
def s_jd (ri : Bool) (Ps : List (List g_Cl)) (most more : Nat) : w_J := if ri = false then (Int32.ofInt (-1), 0, Int32.ofInt 0, []) else if (s_m Ps most more).1 = false then ((Int8.ofInt (-2)).toInt32, (s_m Ps most more).2.2, Int32.ofInt 0, []) else (s_a Ps (s_m Ps most more).2.1.1, (s_m Ps most more).2.2, s_u Ps (s_m Ps most more).2.1.1, (s_m Ps most more).2.1.1)
/-- what is asked of the places -/
def p_ok (Ps : List (List g_Cl)) : Prop := Ps.length = 5 ∧ (∀ (i : Nat) (L : List g_Cl), Ps[i]? = some L → L.length ≤ 10 ∧ ∀ x, x ∈ L → x_ok x ∧ (i < 4 → x.1 ≤ 3)) ∧ (j_Q 0 Ps).length ≤ 30
section PJ
variable {Ps : List (List g_Cl)} {most more : Nat}
theorem p_okQ (h : p_ok Ps) : ∀ q, q ∈ j_Q 0 Ps → x_ok q.2 := fun q hq => by
  obtain ⟨i, L, h1, h2, -⟩ := j_Q_mem Ps 0 q hq
  exact ((h.2.1 i L h1).2 q.2 h2).1
theorem s_w0_ok (h : p_ok Ps) : wok most (s_w0 Ps most) ∧ rows_ok (s_w0 Ps most) ∧ (s_w0 Ps most).1.Nodup := by
  unfold s_w0
  rw [j_layQ]
  exact lay_ind (fun w => wok most w ∧ rows_ok w ∧ w.1.Nodup) _ _ ⟨⟨Nat.zero_le _, fun q => by cases q⟩, (fun r hr => by cases hr), List.Pairwise.nil⟩ (fun w q hq hw => ⟨wok_lay1 hw.1, rows_lay1 (p_okQ h q hq) hw.2.1, nd_lay1 hw.2.2⟩)
theorem s_jd_nd (h : p_ok Ps) (hm : most ≤ 30) (ri : Bool) : (s_jd ri Ps most more).2.2.2.Nodup ∧ (s_jd ri Ps most more).2.2.2.length ≤ 30 := by
  unfold s_jd
  obtain ⟨w1, w2, w3⟩ := s_w0_ok (most := most) h
  split
  · exact ⟨List.Pairwise.nil, Nat.zero_le _⟩
  · split
    · exact ⟨List.Pairwise.nil, Nat.zero_le _⟩
    · refine ⟨nd_set _ _ _ w3, ?_⟩
      have := (j_set_m (room := most) (Ps := Ps) more (s_w0 Ps most) 0 false w1).2.2.2.2
      exact Nat.le_trans this.1 hm
theorem d_pol_ne {F : List j_R} : ∀ (Q : List (Nat × g_Cl)) (n : Nat), n + Q.length ≤ 1000 → ¬ (d_pol F Q n).2 = Int32.ofInt (-1) ∧ ¬ (d_pol F Q n).2 = (Int8.ofInt (-2)).toInt32
  | [], n, _ => ⟨by show ¬ d_m6 = _; decide, by show ¬ d_m6 = _; decide⟩
  | q :: Q, n, h => by
    simp only [List.length_cons] at h
    unfold d_pol
    split
    · exact d_pol_ne Q n (by omega)
    · split
      · show ¬ (if (q_fl F q).1 = true then (if q.2.1 = 4 then Int32.ofNat n else d_m5) else d_m6) = _ ∧ ¬ (if (q_fl F q).1 = true then (if q.2.1 = 4 then Int32.ofNat n else d_m5) else d_m6) = _
        split
        · split
          · have e := n_toInt (a := n) (by omega)
            have e1 : (Int32.ofInt (-1)).toInt = -1 := by decide
            have e2 : ((Int8.ofInt (-2)).toInt32).toInt = -2 := by decide
            refine ⟨fun c => ?_, fun c => ?_⟩
            · rw [c, e1] at e; omega
            · rw [c, e2] at e; omega
          · exact ⟨by decide, by decide⟩
        · exact ⟨by decide, by decide⟩
      · exact d_pol_ne Q (n + 1) (by omega)
theorem s_a_ne (h : (j_Q 0 Ps).length ≤ 30) (F : List j_R) : ¬ s_a Ps F = Int32.ofInt (-1) ∧ ¬ s_a Ps F = (Int8.ofInt (-2)).toInt32 := by
  unfold s_a d_ans
  split
  · exact ⟨by decide, by decide⟩
  · split
    · exact ⟨by decide, by decide⟩
    · split
      · exact ⟨by decide, by decide⟩
      · exact d_pol_ne _ 0 (by omega)
theorem j_Q_len : ∀ (Ps : List (List g_Cl)) (p : Nat), (j_Q p Ps).length = (Ps.map List.length).sum
  | [], p => rfl
  | L :: Ls, p => by
    show (L.map (fun x => (p, x)) ++ j_Q (p + 1) Ls).length = _
    rw [List.length_append, List.length_map, j_Q_len Ls (p + 1), List.map_cons, List.sum_cons]
/-- the places of a token and the desk -/
theorem w_Ps_ok {lc : Nat → Nat} {ln : Nat} {M : List g_Cl} {Bs : List (List g_Cl)} {D : List g_Cl} {Ts : List w_T} {K : Nat} (ok : g_ok lc ln M Bs D Ts K most more) (T : w_T) : p_ok (w_Ps T Bs D) := by
  have hp : ∀ i, (w_pl T Bs i).length ≤ 5 ∧ ∀ x, x ∈ w_pl T Bs i → x_ok x ∧ x.1 ≤ 3 := fun i => by
    unfold w_pl
    split
    · exact ⟨Nat.zero_le _, fun x hx => by cases hx⟩
    · next l _ =>
      rw [List.getD_eq_getElem?_getD]
      cases e : Bs[l.1.toNatClampNeg - 1]? with
      | none => exact ⟨Nat.zero_le _, fun x hx => by cases hx⟩
      | some L => exact ok.2.2.1.2 L (List.mem_of_getElem? e)
  have hD := ok.2.2.2.1
  refine ⟨rfl, fun i L hL => ?_, ?_⟩
  · have low : ∀ k, w_pl T Bs k = L → L.length ≤ 10 ∧ ∀ x, x ∈ L → x_ok x ∧ (i < 4 → x.1 ≤ 3) := fun k e => by
      have := hp k
      rw [e] at this
      exact ⟨by omega, fun x hx => ⟨(this.2 x hx).1, fun _ => (this.2 x hx).2⟩⟩
    match i, hL with
    | 0, hL => exact low 0 (Option.some.inj hL)
    | 1, hL => exact low 1 (Option.some.inj hL)
    | 2, hL => exact low 2 (Option.some.inj hL)
    | 3, hL => exact low 3 (Option.some.inj hL)
    | 4, hL =>
      have hL : D = L := Option.some.inj hL
      subst hL
      exact ⟨hD.1, fun x hx => ⟨hD.2 x hx, fun q => absurd q (by omega)⟩⟩
    | i + 5, hL => cases hL
  · rw [j_Q_len]
    have a0 := (hp 0).1
    have a1 := (hp 1).1
    have a2 := (hp 2).1
    have a3 := (hp 3).1
    show (w_pl T Bs 0).length + ((w_pl T Bs 1).length + ((w_pl T Bs 2).length + ((w_pl T Bs 3).length + (D.length + 0)))) ≤ 30
    omega
end PJ
