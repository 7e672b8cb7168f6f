/-! ### The class's judge and the reference's judge come to the same -/
theorem m_rn1_pre {room : Nat} {F G : List j_R} {w : j_W} {q : Nat × g_Cl} (h : j_pre G w.1) : j_pre G (m_rn1 room F w q).1 := by
  unfold m_rn1
  split
  · have : ∀ (L : List (Int32 × (Nat → Int32))) (w : j_W), j_pre G w.1 → j_pre G (m_W true room q.2 w L).1 := by
      intro L
      induction L with
      | nil => exact fun _ h => h
      | cons oc L ih => exact fun w h => ih (j_add room q.2 w oc) (j_add_pre h)
    exact this _ w h
  · exact h
theorem m_rnd_pre {room : Nat} {F G : List j_R} : ∀ (Q : List (Nat × g_Cl)) {w : j_W}, j_pre G w.1 → j_pre G (Q.foldl (m_rn1 room F) w).1
  | [], _, h => h
  | _ :: Q, _, h => m_rnd_pre Q (m_rn1_pre h)
theorem j_pre_eq {F G : List j_R} (h : j_pre F G) (hl : G.length = F.length) : G = F := by
  apply List.ext_getElem?
  intro i
  by_cases e : i < F.length
  · have := h.2 i _ (List.getElem?_eq_getElem e)
    rw [this, List.getElem?_eq_getElem e]
  · rw [List.getElem?_eq_none (by omega), List.getElem?_eq_none (by omega)]
def q_rf (F : List j_R) (Q : List (Nat × g_Cl)) : Bool := Q.any fun q => decide (q.2.1 = 1) && (q_fl F q).2.2
theorem j_set_m {room : Nat} {Ps : List (List g_Cl)} : ∀ (k : Nat) (w : j_W) (n : Nat) (f : Bool), wok room w → (j_set room Ps k w n f).1 = (m_set room (j_Q 0 Ps) k w n).1 ∧ (j_set room Ps k w n f).2.1 = (m_set room (j_Q 0 Ps) k w n).2.1 ∧ (j_set room Ps k w n f).2.2.1 = (m_set room (j_Q 0 Ps) k w n).2.2 ∧ ((j_set room Ps k w n f).1 = true → (j_set room Ps k w n f).2.2.2 = q_rf (m_set room (j_Q 0 Ps) k w n).2.1.1 (j_Q 0 Ps) ∧ (m_set room (j_Q 0 Ps) k w n).2.1.2 = false) ∧ wok room (m_set room (j_Q 0 Ps) k w n).2.1
  | 0, w, n, f, h => ⟨rfl, rfl, rfl, fun q => absurd (show false = true from q) (by decide), h⟩
  | k + 1, w, n, f, h => by
    obtain ⟨s1, s2⟩ := j_rnd_split (F := w.1) (j_Q 0 Ps) (w, false) h
    rw [← j_rndQ] at s1 s2
    have s1 : (j_rndP room w.1 0 Ps (w, false)).1 = (j_Q 0 Ps).foldl (m_rn1 room w.1) w := s1
    unfold j_set m_set
    by_cases e : w.2 = true
    · rw [if_pos e, if_pos e]
      exact ⟨rfl, rfl, rfl, fun q => absurd (show false = true from q) (by decide), h⟩
    · rw [if_neg e, if_neg e, s1]
      by_cases e2 : ((j_Q 0 Ps).foldl (m_rn1 room w.1) w).1.length = w.1.length ∧ ((j_Q 0 Ps).foldl (m_rn1 room w.1) w).2 = false
      · rw [if_pos e2, if_pos e2]
        refine ⟨rfl, rfl, rfl, fun _ => ⟨?_, e2.2⟩, m_rnd_wok _ h⟩
        have hp : j_pre w.1 ((j_Q 0 Ps).foldl (m_rn1 room w.1) w).1 := m_rnd_pre _ ⟨Nat.le_refl _, fun _ _ h => h⟩
        have heq := j_pre_eq hp e2.1
        have := s2 e2.2
        show (j_rndP room w.1 0 Ps (w, false)).2 = q_rf ((j_Q 0 Ps).foldl (m_rn1 room w.1) w).1 (j_Q 0 Ps)
        rw [this, heq]
        rfl
      · rw [if_neg e2, if_neg e2]
        exact j_set_m k _ _ _ (m_rnd_wok _ h)
theorem j_srch_fl {room : Nat} {w : j_W} (hw : wok room w) (hv : w.2 = false) {q : Nat × g_Cl} (hh : q.2.2.2.1 = none) : (j_srch room q.2 q.1 w.1 w).2 = q_fl w.1 q := by
  obtain ⟨s1, s2⟩ := j_run_split (m_L q.2 q.1 w.1) (w, f000) hw
  have h1 : (j_run room q.2 (m_L q.2 q.1 w.1) (w, f000)).1 = w := j_run_hd hh _ _
  exact s2 (by rw [← s1, h1]; exact hv)
theorem or_ne0 {a b : Int32} (h : ¬ b = 0) : ¬ a ||| b = 0 := by
  intro q
  apply h
  apply Int32.toBitVec_inj.mp
  have h2 := congrArg Int32.toBitVec q
  rw [Int32.toBitVec_or] at h2
  have h3 : b.toBitVec &&& (a.toBitVec ||| b.toBitVec) = b.toBitVec := by
    apply BitVec.eq_of_getLsbD_eq
    intro i hi
    simp only [BitVec.getLsbD_and, BitVec.getLsbD_or]
    cases a.toBitVec.getLsbD i <;> cases b.toBitVec.getLsbD i <;> rfl
  rw [← h3, h2]
  show b.toBitVec &&& 0#32 = 0#32
  exact BitVec.and_zero
theorem bit_ne0 : ∀ n : Fin 31, ¬ (Int32.ofInt 1 <<< (Int32.ofNat n.val &&& 31)) = 0 := by decide
theorem d_chk {room : Nat} {w : j_W} (hw : wok room w) (hv : w.2 = false) : ∀ (Q : List (Nat × g_Cl)) (z : d_S) (zk : j_K), (∀ q, q ∈ Q → 2 ≤ q.2.1 → q.2.2.2.1 = none) → z.2.1 + Q.length ≤ 31 → z.2.1 = zk.2.1 → z.2.2.1 = zk.2.2 → (z.2.2.2 = true ↔ ¬ z.2.2.1 = 0) → ∀ b : Bool, z.1 = (b || zk.1) →
    (Q.foldl (d_1 w.1) z).1 = ((b || q_rf w.1 Q) || (Q.foldl (fun z q => j_chk1 room w.1 w q.1 z q.2) zk).1) ∧ (Q.foldl (d_1 w.1) z).2.2.1 = (Q.foldl (fun z q => j_chk1 room w.1 w q.1 z q.2) zk).2.2 ∧ ((Q.foldl (d_1 w.1) z).2.2.2 = true ↔ ¬ (Q.foldl (d_1 w.1) z).2.2.1 = 0)
  | [], z, zk, _, _, _, h2, h3, b, h4 => by
    refine ⟨?_, h2, h3⟩
    show z.1 = ((b || false) || zk.1)
    rw [h4]
    cases b <;> rfl
  | q :: Q, z, zk, hh, hl, h1, h2, h3, b, h4 => by
    simp only [List.length_cons] at hl
    have hh' : ∀ q, q ∈ Q → 2 ≤ q.2.1 → q.2.2.2.1 = none := fun r hr => hh r (List.mem_cons_of_mem _ hr)
    have hrf : q_rf w.1 (q :: Q) = ((decide (q.2.1 = 1) && (q_fl w.1 q).2.2) || q_rf w.1 Q) := rfl
    rw [List.foldl_cons, List.foldl_cons, hrf]
    by_cases e23 : q.2.1 = 2 ∨ q.2.1 = 3
    · have hno := hh q List.mem_cons_self (by omega)
      have hsf := j_srch_fl hw hv hno
      have hful : j_ful (j_srch room q.2 q.1 w.1 w) q.2.1 = d_ful (q_fl w.1 q) q.2.1 := by
        unfold j_ful d_ful
        rw [hsf]
      have hd1 : d_1 w.1 z q = (z.1 || (q_fl w.1 q).2.2, z.2.1 + 1, (if d_ful (q_fl w.1 q) q.2.1 = false ∧ z.2.1 < 31 then z.2.2.1 ||| (Int32.ofInt 1 <<< (Int32.ofNat z.2.1 &&& 31)) else z.2.2.1), z.2.2.2 || !d_ful (q_fl w.1 q) q.2.1) := by
        unfold d_1
        rw [if_neg (by omega), if_neg (by omega)]
      have hc1 : j_chk1 room w.1 w q.1 zk q.2 = (zk.1 || (q_fl w.1 q).2.2, zk.2.1 + 1, if d_ful (q_fl w.1 q) q.2.1 = false ∧ zk.2.1 < 31 then zk.2.2 ||| (Int32.ofInt 1 <<< (Int32.ofNat zk.2.1 &&& 31)) else zk.2.2) := by
        unfold j_chk1
        rw [if_pos e23, hful, hsf]
      rw [hd1, hc1]
      have hdec : decide (q.2.1 = 1) = false := decide_eq_false (by omega)
      rw [hdec, Bool.false_and, Bool.false_or]
      refine d_chk hw hv Q _ _ hh' (show z.2.1 + 1 + Q.length ≤ 31 by omega) (show z.2.1 + 1 = zk.2.1 + 1 by omega) ?_ ?_ b ?_
      · show (if d_ful (q_fl w.1 q) q.2.1 = false ∧ z.2.1 < 31 then z.2.2.1 ||| (Int32.ofInt 1 <<< (Int32.ofNat z.2.1 &&& 31)) else z.2.2.1) = _
        rw [h1, h2]
      · show (z.2.2.2 || !d_ful (q_fl w.1 q) q.2.1) = true ↔ ¬ (if d_ful (q_fl w.1 q) q.2.1 = false ∧ z.2.1 < 31 then z.2.2.1 ||| (Int32.ofInt 1 <<< (Int32.ofNat z.2.1 &&& 31)) else z.2.2.1) = 0
        cases hf : d_ful (q_fl w.1 q) q.2.1 with
        | true =>
          rw [if_neg (by simp), ← h3]
          simp
        | false =>
          rw [if_pos ⟨rfl, by omega⟩]
          simp only [Bool.not_false, Bool.or_true, true_iff]
          exact or_ne0 (bit_ne0 ⟨z.2.1, by omega⟩)
      · show (z.1 || (q_fl w.1 q).2.2) = (b || (zk.1 || (q_fl w.1 q).2.2))
        rw [h4, Bool.or_assoc]
    · have hc1 : j_chk1 room w.1 w q.1 zk q.2 = zk := if_neg e23
      rw [hc1]
      by_cases e1 : q.2.1 = 1
      · have hd1 : d_1 w.1 z q = (z.1 || (q_fl w.1 q).2.2, z.2) := by
          unfold d_1
          rw [if_neg (by omega), if_pos e1]
        rw [hd1, decide_eq_true e1, Bool.true_and]
        have key := d_chk hw hv Q (z.1 || (q_fl w.1 q).2.2, z.2) zk hh' (show z.2.1 + Q.length ≤ 31 by omega) h1 h2 h3 (b || (q_fl w.1 q).2.2) (by
          show (z.1 || (q_fl w.1 q).2.2) = _
          rw [h4, Bool.or_assoc, Bool.or_assoc, Bool.or_comm zk.1])
        rw [key.1]
        refine ⟨?_, key.2⟩
        rw [Bool.or_assoc b]
      · have hd1 : d_1 w.1 z q = z := by
          unfold d_1
          rw [if_pos (by omega)]
        rw [hd1, decide_eq_false e1, Bool.false_and, Bool.false_or]
        exact d_chk hw hv Q z zk hh' (by omega) h1 h2 h3 b h4
theorem d_pol_app {F : List j_R} : ∀ (Q1 Q2 : List (Nat × g_Cl)) (n : Nat), (∀ q, q ∈ Q1 → q.2.1 ≤ 3) → d_pol F (Q1 ++ Q2) n = d_pol F Q2 n
  | [], _, _, _ => rfl
  | q :: Q1, Q2, n, h => by
    show d_pol F (q :: (Q1 ++ Q2)) n = _
    conv => lhs; unfold d_pol
    rw [if_pos (h q List.mem_cons_self)]
    exact d_pol_app Q1 Q2 n (fun r hr => h r (List.mem_cons_of_mem _ hr))
theorem d_pol_j {room : Nat} {w : j_W} (hw : wok room w) (hv : w.2 = false) : ∀ (D : List g_Cl) (n : Nat), (∀ x, x ∈ D → x.1 ≤ 5 ∧ (2 ≤ x.1 → x.2.2.1 = none)) → n + D.length ≤ 1000 → j_pol room w.1 w D n = (if (d_pol w.1 (D.map fun x => (4, x)) n).1 = true then (Int8.ofInt (-3)).toInt32 else (d_pol w.1 (D.map fun x => (4, x)) n).2) ∧ ¬ (d_pol w.1 (D.map fun x => (4, x)) n).2 = (Int8.ofInt (-3)).toInt32
  | [], n, _, _ => ⟨rfl, by show ¬ d_m6 = _; decide⟩
  | x :: D, n, h, hl => by
    simp only [List.length_cons] at hl
    obtain ⟨h5, hn⟩ := h x List.mem_cons_self
    have h' : ∀ x, x ∈ D → x.1 ≤ 5 ∧ (2 ≤ x.1 → x.2.2.1 = none) := fun r hr => h r (List.mem_cons_of_mem _ hr)
    rw [List.map_cons]
    unfold j_pol d_pol
    by_cases e : x.1 ≤ 3
    · rw [if_neg (by omega), if_pos (show ((4 : Nat), x).2.1 ≤ 3 from e)]
      exact d_pol_j hw hv D n h' (by omega)
    · have hsf := j_srch_fl (q := (4, x)) hw hv (hn (by omega))
      have hsf : (j_srch room x 4 w.1 w).2 = q_fl w.1 (4, x) := hsf
      rw [if_pos (show x.1 = 4 ∨ x.1 = 5 by omega), if_neg (show ¬ ((4 : Nat), x).2.1 ≤ 3 from e), hsf]
      have hm3 : ¬ Int32.ofNat n = (Int8.ofInt (-3)).toInt32 := by
        intro q
        have := congrArg Int32.toInt q
        rw [n_toInt (by omega), show ((Int8.ofInt (-3)).toInt32).toInt = -3 by decide] at this
        omega
      cases h2 : (q_fl w.1 (4, x)).2.2 with
      | true =>
        rw [if_pos rfl, if_pos (Or.inl rfl)]
        refine ⟨rfl, ?_⟩
        show ¬ (if (q_fl w.1 (4, x)).1 = true then (if x.1 = 4 then Int32.ofNat n else d_m5) else d_m6) = _
        split
        · split
          · exact hm3
          · decide
        · decide
      | false =>
        rw [if_neg (by decide)]
        cases h1 : (q_fl w.1 (4, x)).1 with
        | true =>
          rw [if_pos rfl, if_pos (Or.inr rfl)]
          refine ⟨rfl, ?_⟩
          show ¬ (if x.1 = 4 then Int32.ofNat n else d_m5) = _
          split
          · exact hm3
          · decide
        | false =>
          rw [if_neg (by decide), if_neg (show ¬ (false = true ∨ false = true) by decide)]
          exact d_pol_j hw hv D (n + 1) h' (by omega)
theorem j_Q_mem : ∀ (Ps : List (List g_Cl)) (p : Nat) (q : Nat × g_Cl), q ∈ j_Q p Ps → ∃ i L, Ps[i]? = some L ∧ q.2 ∈ L ∧ q.1 = p + i
  | [], p, q, h => by cases h
  | L :: Ls, p, q, h => by
    rcases List.mem_append.mp h with h | h
    · obtain ⟨x, hx, rfl⟩ := List.mem_map.mp h
      exact ⟨0, L, rfl, hx, by omega⟩
    · obtain ⟨i, L', h1, h2, h3⟩ := j_Q_mem Ls (p + 1) q h
      exact ⟨i + 1, L', h1, h2, by omega⟩
theorem j_Q_split {Ps : List (List g_Cl)} (h5 : Ps.length = 5) {D : List g_Cl} (hD : Ps[4]? = some D) : ∃ Q1, j_Q 0 Ps = Q1 ++ D.map (fun x => (4, x)) ∧ ∀ q, q ∈ Q1 → ∃ i L, i < 4 ∧ Ps[i]? = some L ∧ q.2 ∈ L := by
  match Ps, h5, hD with
  | [B0, B1, B2, B3, E], _, hD =>
    have hE : E = D := Option.some.inj hD
    subst hE
    refine ⟨B0.map (fun x => (0, x)) ++ (B1.map (fun x => (1, x)) ++ (B2.map (fun x => (2, x)) ++ B3.map (fun x => (3, x)))), ?_, ?_⟩
    · show B0.map (fun x => (0, x)) ++ (B1.map (fun x => (1, x)) ++ (B2.map (fun x => (2, x)) ++ (B3.map (fun x => (3, x)) ++ (E.map (fun x => (4, x)) ++ [])))) = _
      simp only [List.append_assoc, List.append_nil]
    · intro q hq
      rcases List.mem_append.mp hq with h | h
      · obtain ⟨x, hx, rfl⟩ := List.mem_map.mp h
        exact ⟨0, B0, by omega, rfl, hx⟩
      · rcases List.mem_append.mp h with h | h
        · obtain ⟨x, hx, rfl⟩ := List.mem_map.mp h
          exact ⟨1, B1, by omega, rfl, hx⟩
        · rcases List.mem_append.mp h with h | h
          · obtain ⟨x, hx, rfl⟩ := List.mem_map.mp h
            exact ⟨2, B2, by omega, rfl, hx⟩
          · obtain ⟨x, hx, rfl⟩ := List.mem_map.mp h
            exact ⟨3, B3, by omega, rfl, hx⟩
theorem j_same {room : Nat} {Ps : List (List g_Cl)} (h5 : Ps.length = 5) {D : List g_Cl} (hD : Ps[4]? = some D) (hk : ∀ (i : Nat) (L : List g_Cl), Ps[i]? = some L → L.length ≤ 10 ∧ ∀ x, x ∈ L → x.1 ≤ 5 ∧ (2 ≤ x.1 → x.2.2.1 = none) ∧ (i < 4 → x.1 ≤ 3)) (hQ : (j_Q 0 Ps).length ≤ 30) {w : j_W} (hw : wok room w) (hv : w.2 = false) :
    j_ver (q_rf w.1 (j_Q 0 Ps)) (j_chkP room w.1 w 0 Ps (false, 0, Int32.ofInt 0)).1 (j_pol room w.1 w D 0) (j_chkP room w.1 w 0 Ps (false, 0, Int32.ofInt 0)).2.2 = d_ans ((j_Q 0 Ps).foldl (d_1 w.1) (false, 0, Int32.ofInt 0, false)) (d_pol w.1 (j_Q 0 Ps) 0) ∧ ((j_Q 0 Ps).foldl (d_1 w.1) (false, 0, Int32.ofInt 0, false)).2.2.1 = (j_chkP room w.1 w 0 Ps (false, 0, Int32.ofInt 0)).2.2 := by
  obtain ⟨c1, c2, c3⟩ := d_chk hw hv (j_Q 0 Ps) (false, 0, Int32.ofInt 0, false) (false, 0, Int32.ofInt 0) (fun q hq h2 => by
    obtain ⟨i, L, h1, h3, _⟩ := j_Q_mem Ps 0 q hq
    exact ((hk i L h1).2 q.2 h3).2.1 h2) (by show 0 + _ ≤ 31; omega) rfl rfl (by decide) false rfl
  rw [← j_chkQ] at c1 c2
  rw [Bool.false_or] at c1
  refine ⟨?_, c2⟩
  obtain ⟨Q1, hQ1, hQ2⟩ := j_Q_split h5 hD
  have hp1 : d_pol w.1 (j_Q 0 Ps) 0 = d_pol w.1 (D.map fun x => (4, x)) 0 := by
    rw [hQ1]
    exact d_pol_app _ _ _ (fun q hq => by
      obtain ⟨i, L, hi, h1, h2⟩ := hQ2 q hq
      exact ((hk i L h1).2 q.2 h2).2.2 hi)
  have hDk := hk 4 D hD
  obtain ⟨p1, p2⟩ := d_pol_j hw hv D 0 (fun x hx => ⟨(hDk.2 x hx).1, (hDk.2 x hx).2.1⟩) (by omega)
  rw [hp1, p1]
  unfold j_ver d_ans
  rw [c1]
  generalize (d_pol w.1 (D.map fun x => (4, x)) 0) = r at p2
  generalize (j_chkP room w.1 w 0 Ps (false, 0, Int32.ofInt 0)) = K at c2
  generalize (j_Q 0 Ps).foldl (d_1 w.1) (false, 0, Int32.ofInt 0, false) = z at c2 c3
  cases hb : (q_rf w.1 (j_Q 0 Ps) || K.1) with
  | true => rw [if_pos rfl, if_pos rfl]
  | false =>
    rw [if_neg (show ¬ false = true by decide), if_neg (show ¬ false = true by decide)]
    cases hr : r.1 with
    | true => rw [if_pos rfl, if_pos rfl]; rfl
    | false =>
      rw [if_neg (show ¬ false = true by decide), if_neg (show ¬ false = true by decide), if_neg p2]
      rw [c2] at c3
      by_cases e : K.2.2 = 0
      · rw [if_pos e, if_neg (fun q => (c3.mp q) e)]
      · rw [if_neg e, if_pos (c3.mpr e)]
