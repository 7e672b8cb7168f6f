/-! ### One call at the start: both answer alike -/
def p1_H : ag_H := md_up gx_h2 52 md_S0
theorem p1_at {q : Nat} {c : ag_C} (h2 : 2 ≤ q) (hq : q < 52) (e : gx_h2.2.2 q = c) : ag_at p1_H (.ref q) = some c := pu_md_at (Or.inl hq) (pu_at h2 (by rw [gx_h75]; omega) e)
theorem p1_2 : ag_at p1_H (.ref 2) = some (.inr (0, [.ref 3, .ref 5, .ref 7, .ref 46, .ref 48, .ref 49, .ref 50, .int 3, .int 30, .int 10])) := p1_at (by decide) (by decide) rfl
theorem p1_3 : ag_at p1_H (.ref 3) = some (.inr (1, [.ref 4, .int (Int32.ofNat 0), .int 0])) := p1_at (by decide) (by decide) rfl
theorem p1_4 : ag_at p1_H (.ref 4) = some (.inl (1, 40, .inl (fun _ => 0))) := p1_at (by decide) (by decide) rfl
theorem p1_49 : ag_at p1_H (.ref 49) = some (.inr (11, [.ref 1, .int 0, .int 0])) := p1_at (by decide) (by decide) rfl
theorem p1_7 : ag_at p1_H (.ref 7) = some (.inr (3, [.ref 8, .ref 41, .ref 43, .int 0, .int 0, .int 0, .ref 44, .ref 45, .int 0, .int 0, .int 0, .int 0, .int 0, .int 0])) := p1_at (by decide) (by decide) rfl
theorem p1_46 : ag_at p1_H (.ref 46) = some (.inr (5, [.ref 47])) := p1_at (by decide) (by decide) rfl
theorem p1_47 : ag_at p1_H (.ref 47) = some (.inr (11, [.ref 1, .int 0, .int 0])) := p1_at (by decide) (by decide) rfl
theorem p1_48 : ag_at p1_H (.ref 48) = some (.inr (11, [.ref 1, .int 0, .int 0])) := p1_at (by decide) (by decide) rfl
theorem p1_50 : ag_at p1_H (.ref 50) = some (.inr (5, [.ref 51])) := p1_at (by decide) (by decide) rfl
theorem p1_51 : ag_at p1_H (.ref 51) = some (.inr (11, [.ref 1, .int 0, .int 0])) := p1_at (by decide) (by decide) rfl
theorem p1_8 : ag_at p1_H (.ref 8) = some (.inr (4, [.ref 9, .int 0, .int 0, .int 0])) := p1_at (by decide) (by decide) rfl
theorem p1_w : lw_Wf 2 52 74 gx_h2 := ⟨⟨by decide, by decide, by decide, by rw [gx_h75]; decide⟩, ⟨_, rfl⟩, ⟨_, rfl⟩⟩
theorem p1_wup {h : ag_H} {q : Nat} (c : ag_C) (h2 : q ≠ 2) (h7 : q ≠ 74) (w : lw_Wf 2 52 74 h) : lw_Wf 2 52 74 (ag_up h q c) := by
  obtain ⟨w1, ⟨fs, w2⟩, ⟨f, w3⟩⟩ := w
  exact ⟨w1, ⟨fs, (if_neg (Ne.symm h2)).trans w2⟩, ⟨f, (if_neg (Ne.symm h7)).trans w3⟩⟩
theorem p1_wup2 {h : ag_H} {gs : List Value} (w : lw_Wf 2 52 74 h) : lw_Wf 2 52 74 (ag_up h 2 (.inr (0, gs))) := by
  obtain ⟨w1, -, ⟨f, w3⟩⟩ := w
  exact ⟨w1, ⟨gs, rfl⟩, ⟨f, w3⟩⟩
theorem p1_wnw {h : ag_H} {n : Nat} {c : ag_C} (w : lw_Wf 2 52 74 h) : lw_Wf 2 52 74 (ag_nw h n c) := by
  obtain ⟨⟨w0, w1, w2, w3⟩, ⟨fs, w4⟩, ⟨f, w5⟩⟩ := w
  exact ⟨⟨w0, w1, w2, show 74 < h.1 + 1 by omega⟩, ⟨fs, (if_neg (by omega)).trans w4⟩, ⟨f, (if_neg (by omega)).trans w5⟩⟩
section PW
variable {K : ag_H → MS → Prop} (hK : ∀ h S, lw_Wf 2 52 74 h → K h S)
/-- a call that is refused -/
theorem p1_thr {F : ag_H → Option ((Int32 ⊕ Nat) × ag_H)} {Mf Th : MS → Option (Int32 × MS)} {kd : Nat → Option Int32} {y k : Int32} {S1 S2 : MS} {ci : Nat} (hK : ∀ h S, lw_Wf 2 52 74 h → K h S) (hM : Mf md_S0 = some (y, S1)) (hT : Th S1 = some (k, S2)) (hF : F p1_H = some (.inr p1_H.1, ag_nw p1_H 6 (.inr (ci, [])))) (hk : kd ci = some k) : lw_T F Mf Th kd 2 52 74 gx_h2 md_S0 K := by
  refine ⟨y, S1, k, S2, hM, hT, Or.inr ⟨gx_h2.1, ag_nw gx_h2 6 (.inr (ci, [])), ci, [], ?_, ?_, hk, p1_wnw p1_w, hK _ _ (p1_wnw p1_w)⟩⟩
  · refine hF.trans ?_
    show some (Sum.inr gx_h2.1, ag_nw (md_up gx_h2 52 md_S0) 6 (.inr (ci, []))) = _
    rw [lw_nwo (by rw [gx_h75]; decide)]
  · rw [← lw_nwo (by rw [gx_h75]; decide)]
    exact pu_nw_new (h := md_up gx_h2 52 md_S0) (by show 2 ≤ gx_h2.1; rw [gx_h75]; decide)
def p1_wf (g : ag_H) : Bool := decide (74 < g.1) && (match g.2.2 2 with | .inr (0, _) => true | _ => false) && (match g.2.2 74 with | .inl (3, 1, .inr (.inl _)) => true | _ => false)
theorem p1_wf_ok {g : ag_H} (h : p1_wf g = true) : lw_Wf 2 52 74 g := by
  unfold p1_wf at h
  simp only [Bool.and_eq_true, decide_eq_true_eq] at h
  obtain ⟨⟨h1, h2⟩, h3⟩ := h
  refine ⟨⟨by decide, by decide, by decide, h1⟩, ?_, ?_⟩
  · split at h2
    · next fs e => exact ⟨fs, e⟩
    · cases h2
  · split at h3
    · next f e => exact ⟨f, e⟩
    · cases h3
def p1_chk (r : Option ((Int32 ⊕ Nat) × ag_H)) (ci : Nat) : Bool := match r with
  | some (.inr e, g) => decide (2 ≤ e) && decide (e < g.1) && (match g.2.2 e with | .inr (c, _) => c == ci | _ => false) && p1_wf g
  | _ => false
theorem p1_thr2 {F : ag_H → Option ((Int32 ⊕ Nat) × ag_H)} {Mf Th : MS → Option (Int32 × MS)} {kd : Nat → Option Int32} {y k : Int32} {S1 S2 : MS} {ci : Nat} (hK : ∀ h S, lw_Wf 2 52 74 h → K h S) (hM : Mf md_S0 = some (y, S1)) (hT : Th S1 = some (k, S2)) (hc : p1_chk (F p1_H) ci = true) (hf : ∀ r, F p1_H = some r → fr_H 52 p1_H r.2) (hk : kd ci = some k) : lw_T F Mf Th kd 2 52 74 gx_h2 md_S0 K := by
  cases e : F p1_H with
  | none => rw [e] at hc; cases hc
  | some r =>
    have fr := hf r e
    obtain ⟨x, g⟩ := r
    rw [e] at hc
    cases x with
    | inl x => cases hc
    | inr x =>
      simp only [p1_chk, Bool.and_eq_true, decide_eq_true_eq] at hc
      obtain ⟨⟨⟨c1, c2⟩, c3⟩, c4⟩ := hc
      have hg : g = md_up g 52 md_S0 := fr_md fr
      have hw := p1_wf_ok c4
      split at c3
      · next c fx ec =>
        have : c = ci := by simpa using c3
        subst this
        refine ⟨y, S1, k, S2, hM, hT, Or.inr ⟨x, g, c, fx, ?_, ?_, hk, hw, hK _ _ hw⟩⟩
        · rw [← hg]; exact e
        · rw [← hg]; exact pu_at c1 c2 ec
      · cases c3
def p1_chi (r : Option ((Int32 ⊕ Nat) × ag_H)) (m : Option (Int32 × MS)) : Bool := match r, m with
  | some (.inl y, g), some (z, S) => decide (y = z) && decide (S.1 0 = 0) && p1_wf g
  | _, _ => false
theorem p1_ans {F : ag_H → Option ((Int32 ⊕ Nat) × ag_H)} {Mf : MS → Option (Int32 × MS)} {kd : Nat → Option Int32} (hK : ∀ h S, lw_Wf 2 52 74 h → K h S) (hc : p1_chi (F p1_H) (Mf md_S0) = true) (hf : ∀ r, F p1_H = some r → fr_H 52 p1_H r.2) : lw_T F Mf (fun S => fn_Md_thrown gx_N S) kd 2 52 74 gx_h2 md_S0 K := by
  cases e : F p1_H with
  | none => rw [e] at hc; cases hc
  | some r =>
    have fr := hf r e
    obtain ⟨x, g⟩ := r
    rw [e] at hc
    cases x with
    | inr x => cases hc
    | inl x =>
      cases em : Mf md_S0 with
      | none => rw [em] at hc; cases hc
      | some r2 =>
        rw [em] at hc
        obtain ⟨z, S1⟩ := r2
        simp only [p1_chi, Bool.and_eq_true, decide_eq_true_eq] at hc
        obtain ⟨⟨c1, c2⟩, c4⟩ := hc
        subst c1
        have hg : g = md_up g 52 md_S0 := fr_md fr
        have hw := p1_wf_ok c4
        refine ⟨x, S1, S1.1 0, S1, em, rfl, Or.inl ⟨g, ?_, c2, hw, fun f hf => hK _ _ ?_⟩⟩
        · rw [← hg]; exact e
        · obtain ⟨w1, ⟨fs, w2⟩, -⟩ := hw
          exact ⟨w1, ⟨fs, w2⟩, ⟨_, rfl⟩⟩
end PW
theorem p1_ok2 : fr_ok 52 (some 2) := fun q e => by cases e; exact Or.inl (by decide)
theorem p1_fr : fr_H 52 p1_H p1_H := fr_start
theorem p1_c2 : p1_chk (fn_GC_clause gx_N gx_C 2 p1_H) 12 = true := by decide +kernel
theorem p1_c3 : p1_chk (fn_GC_desk gx_N gx_C 2 p1_H) 12 = true := by decide +kernel
theorem p1_i1 : p1_chi (fn_GC_issue gx_N gx_C 2 1 p1_H) (fn_Md_issue gx_N 1 md_S0) = true := by decide +kernel
theorem p1_i2 : p1_chi (fn_GC_issue gx_N gx_C 2 2 p1_H) (fn_Md_issue gx_N 2 md_S0) = true := by decide +kernel
theorem p1_i3 : p1_chi (fn_GC_issue gx_N gx_C 2 3 p1_H) (fn_Md_issue gx_N 3 md_S0) = true := by decide +kernel
theorem p1_tok (x : Int32) : fn_GC_isToken gx_N gx_C 2 x p1_H = some (Int32.ofInt 0, p1_H) := by
  unfold fn_GC_isToken fn_GC_isToken_0 fn_GC_isToken_21 fn_GC_isToken_22
  by_cases c : x < 0
  · rw [if_pos c]; rfl
  · rw [if_neg c, pu_gr (k := 5) p1_2 rfl, Option.bind_some, pu_rc p1_49, Option.bind_some, o_size gx_N gx_C p1_49 (n := 0) rfl, Option.bind_some, if_pos (show (0 : Int32) ≤ x by rw [Int32.le_iff_toInt_le]; rw [Int32.lt_iff_toInt_lt] at c; exact Int.not_lt.mp c)]
    rfl
theorem p1_tokm (x : Int32) : fn_Md_isToken gx_N x md_S0 = some (Int32.ofInt 0, md_S0) := by
  unfold fn_Md_isToken fn_Md_isToken_0 fn_Md_isToken_16 fn_Md_isToken_17
  by_cases c : x < 0
  · rw [if_pos c]; rfl
  · rw [if_neg c, if_pos (show md_S0.1 9 ≤ x by rw [show md_S0.1 9 = 0 from rfl, Int32.le_iff_toInt_le]; rw [Int32.lt_iff_toInt_lt] at c; exact Int.not_lt.mp c)]
    rfl
theorem p1_room : p1_H.1 + 1 ≤ gx_C.1 ∧ p1_H.2.1 + 6 ≤ gx_C.2 := ⟨by decide +kernel, by decide +kernel⟩
theorem p1_rc2 : ag_rc p1_H (some 2) 0 = some 2 := pu_rc p1_2
section PC
variable {K : ag_H → MS → Prop} (hK : ∀ h S, lw_Wf 2 52 74 h → K h S)
theorem p1_type (hK : ∀ h S, lw_Wf 2 52 74 h → K h S) (x : Int32) : lw_D (fun h => fn_GC_type gx_N gx_C 2 x h) (fun S => fn_Md_type gx_N x S) 52 gx_h2 md_S0 K := by
  have e2 : md_S0.2 2 ((Int8.ofInt (95)).toInt32).toNatClampNeg = 0 := rfl
  by_cases c : x < (Int8.ofInt (32)).toInt32 ∨ (Int8.ofInt (126)).toInt32 < x
  · refine ⟨Int32.ofInt 0, gx_h2, _, o_typc gx_N gx_C p1_2 rfl p1_3 (by rcases c with c | c; exact Or.inl c; exact Or.inr (Or.inl c)), o_typr gx_N (by rcases c with c | c; exact Or.inl c; exact Or.inr (Or.inl c)), hK _ _ p1_w⟩
  · have c1 : ¬ x < (Int8.ofInt (32)).toInt32 := fun q => c (Or.inl q)
    have c2 : ¬ (Int8.ofInt (126)).toInt32 < x := fun q => c (Or.inr q)
    refine ⟨Int32.ofInt 1, _, _, o_type gx_N gx_C (n := 0) p1_2 rfl p1_3 p1_4 c1 c2 (by decide) (by decide), o_typm gx_N c1 c2 (by rw [e2]; decide) (by rw [e2]; decide), hK _ _ ?_⟩
    exact p1_wup _ (by decide) (by decide) (p1_wup _ (by decide) (by decide) p1_w)
theorem p1_wipe (hK : ∀ h S, lw_Wf 2 52 74 h → K h S) : lw_V (fun h => fn_GC_wipe gx_N gx_C 2 h) (fun S => fn_Md_wipe gx_N S) 52 gx_h2 md_S0 K := by
  have k := o_wipe gx_N gx_C (h := gx_h2) (S := md_S0) p1_2 rfl p1_3
  exact ⟨0, 0, _, _, k.1, k.2, hK _ _ (p1_wup _ (by decide) (by decide) p1_w)⟩
theorem p1_clause (hK : ∀ h S, lw_Wf 2 52 74 h → K h S) : lw_T (fun h => fn_GC_clause gx_N gx_C 2 h) (fun S => fn_Md_clause gx_N S) (fun S => fn_Md_thrown gx_N S) kd_clause 2 52 74 gx_h2 md_S0 K := by
  have e : (match fn_Md_clause gx_N md_S0 with | some (_, S) => decide (S.1 0 = 1) | none => false) = true := by decide +kernel
  cases em : fn_Md_clause gx_N md_S0 with
  | none => rw [em] at e; cases e
  | some r =>
    rw [em] at e
    have e1 : r.2.1 0 = 1 := by simpa using e
    exact p1_thr2 (ci := 12) hK em (show _ = some (r.2.1 0, r.2) from rfl) p1_c2 (fun r hr => a_GC_clause hr p1_fr p1_ok2) (by rw [e1]; rfl)
theorem p1_desk (hK : ∀ h S, lw_Wf 2 52 74 h → K h S) : lw_T (fun h => fn_GC_desk gx_N gx_C 2 h) (fun S => fn_Md_desk gx_N S) (fun S => fn_Md_thrown gx_N S) kd_desk 2 52 74 gx_h2 md_S0 K := by
  have e : (match fn_Md_desk gx_N md_S0 with | some (_, S) => decide (S.1 0 = 1) | none => false) = true := by decide +kernel
  cases em : fn_Md_desk gx_N md_S0 with
  | none => rw [em] at e; cases e
  | some r =>
    rw [em] at e
    have e1 : r.2.1 0 = 1 := by simpa using e
    exact p1_thr2 (ci := 12) hK em (show _ = some (r.2.1 0, r.2) from rfl) p1_c3 (fun r hr => a_GC_desk hr p1_fr p1_ok2) (by rw [e1]; rfl)
def p1_chv (r : Option (Int32 × ag_H)) : Bool := match r with
  | some (_, g) => p1_wf g
  | none => false
theorem p1_c4 : p1_chv (fn_GC_clear gx_N gx_C 2 p1_H) = true := by decide +kernel
theorem p1_clear (hK : ∀ h S, lw_Wf 2 52 74 h → K h S) : lw_V (fun h => fn_GC_clear gx_N gx_C 2 h) (fun S => fn_Md_clear gx_N S) 52 gx_h2 md_S0 K := by
  have hc := p1_c4
  cases e : fn_GC_clear gx_N gx_C 2 p1_H with
  | none => rw [e] at hc; cases hc
  | some r =>
    rw [e] at hc
    have hg : r.2 = md_up r.2 52 md_S0 := fr_md (a_GC_clear e p1_fr p1_ok2)
    refine ⟨r.1, 0, r.2, _, ?_, rfl, hK _ _ (p1_wf_ok hc)⟩
    rw [← hg]; exact e
theorem p1_issue (hK : ∀ h S, lw_Wf 2 52 74 h → K h S) (x : Int32) : lw_T (fun h => fn_GC_issue gx_N gx_C 2 x h) (fun S => fn_Md_issue gx_N x S) (fun S => fn_Md_thrown gx_N S) kd_issue 2 52 74 gx_h2 md_S0 K := by
  by_cases c1 : x < Int32.ofInt 1
  · refine p1_thr (ci := 12) (y := Int32.ofInt 0) (k := 1) hK (S1 := (va_up md_S0.1 0 (Int32.ofInt 1), md_S0.2)) ?_ rfl ?_ rfl
    · show fn_Md_issue gx_N x md_S0 = _
      unfold fn_Md_issue fn_Md_issue_0 fn_Md_issue_11 fn_Md_issue_29
      rw [if_pos c1]
      exact (if_neg (by decide)).trans rfl
    · show fn_GC_issue gx_N gx_C 2 x p1_H = _
      unfold fn_GC_issue fn_GC_issue_0 fn_GC_isRoot fn_GC_isRoot_0 fn_GC_isRoot_14 fn_GC_isRoot_15
      rw [if_pos c1, if_pos (by decide), Option.bind_some]
      exact (if_pos rfl).trans (if_pos p1_room)
  · by_cases c2 : Int32.ofInt 3 < x
    · refine p1_thr (ci := 12) (y := Int32.ofInt 0) (k := 1) hK (S1 := (va_up md_S0.1 0 (Int32.ofInt 1), md_S0.2)) ?_ rfl ?_ rfl
      · show fn_Md_issue gx_N x md_S0 = _
        unfold fn_Md_issue fn_Md_issue_0 fn_Md_issue_11 fn_Md_issue_29
        rw [if_neg c1, if_neg (show ¬ x ≤ Int32.ofInt 3 by rw [Int32.le_iff_toInt_le]; rw [Int32.lt_iff_toInt_lt] at c2; omega)]
        exact (if_neg (by decide)).trans rfl
      · show fn_GC_issue gx_N gx_C 2 x p1_H = _
        unfold fn_GC_issue fn_GC_issue_0 fn_GC_isRoot fn_GC_isRoot_0 fn_GC_isRoot_14 fn_GC_isRoot_15
        rw [if_neg c1, if_pos c2, if_pos (by decide), Option.bind_some]
        exact (if_pos rfl).trans (if_pos p1_room)
    · have h3 : x = 1 ∨ x = 2 ∨ x = 3 := by
        rw [Int32.lt_iff_toInt_lt] at c1 c2
        have q1 : (Int32.ofInt 1).toInt = 1 := by decide
        have q3 : (Int32.ofInt 3).toInt = 3 := by decide
        rw [q1] at c1
        rw [q3] at c2
        have q : x.toInt = 1 ∨ x.toInt = 2 ∨ x.toInt = 3 := by omega
        rcases q with q | q | q
        · exact Or.inl (Int32.toInt_inj.mp q)
        · exact Or.inr (Or.inl (Int32.toInt_inj.mp q))
        · exact Or.inr (Or.inr (Int32.toInt_inj.mp q))
      rcases h3 with rfl | rfl | rfl
      · exact p1_ans hK p1_i1 (fun r hr => a_GC_issue hr p1_fr p1_ok2)
      · exact p1_ans hK p1_i2 (fun r hr => a_GC_issue hr p1_fr p1_ok2)
      · exact p1_ans hK p1_i3 (fun r hr => a_GC_issue hr p1_fr p1_ok2)
theorem p1_append (hK : ∀ h S, lw_Wf 2 52 74 h → K h S) (x : Int32) : lw_T (fun h => fn_GC_append gx_N gx_C 2 x h) (fun S => fn_Md_append gx_N x S) (fun S => fn_Md_thrown gx_N S) kd_append 2 52 74 gx_h2 md_S0 K := by
  refine p1_thr (ci := 14) (y := Int32.ofInt 0) (k := 1) hK (S1 := (va_up md_S0.1 0 (Int32.ofInt 1), md_S0.2)) ?_ rfl ?_ rfl
  · show fn_Md_append gx_N x md_S0 = _
    unfold fn_Md_append fn_Md_append_0 fn_Md_append_46
    rw [p1_tokm, Option.bind_some]
    refine (if_pos rfl).trans ?_
    exact (if_neg (by decide)).trans rfl
  · show fn_GC_append gx_N gx_C 2 x p1_H = _
    unfold fn_GC_append fn_GC_append_0
    rw [p1_rc2, Option.bind_some, p1_tok, Option.bind_some]
    exact (if_pos rfl).trans (if_pos p1_room)
theorem p1_seal (hK : ∀ h S, lw_Wf 2 52 74 h → K h S) (x : Int32) : lw_T (fun h => fn_GC_seal gx_N gx_C 2 x h) (fun S => fn_Md_seal gx_N x S) (fun S => fn_Md_thrown gx_N S) kd_seal 2 52 74 gx_h2 md_S0 K := by
  refine p1_thr (ci := 14) (y := Int32.ofInt 0) (k := 1) hK (S1 := (va_up md_S0.1 0 (Int32.ofInt 1), md_S0.2)) ?_ rfl ?_ rfl
  · show fn_Md_seal gx_N x md_S0 = _
    unfold fn_Md_seal fn_Md_seal_0 fn_Md_seal_36
    rw [p1_tokm, Option.bind_some]
    refine (if_pos rfl).trans ?_
    exact (if_neg (by decide)).trans rfl
  · show fn_GC_seal gx_N gx_C 2 x p1_H = _
    unfold fn_GC_seal fn_GC_seal_0
    rw [p1_rc2, Option.bind_some, p1_tok, Option.bind_some]
    exact (if_pos rfl).trans (if_pos p1_room)
theorem p1_tam104 (x1 x2 x3 x4 x7 s0 : Int32) : fn_Md_tamper_104 gx_N x1 x2 x3 x4 0 x7 s0 md_S0 = some (0, (va_up md_S0.1 0 (Int32.ofInt 1), md_S0.2)) := by
  unfold fn_Md_tamper_104 fn_Md_tamper_122 fn_Md_tamper_155
  refine (if_pos rfl).trans ?_
  exact (if_neg (by decide)).trans rfl
theorem p1_tamper (hK : ∀ h S, lw_Wf 2 52 74 h → K h S) (x1 x2 x3 x4 : Int32) : lw_T (fun h => fn_GC_tamper gx_N gx_C 2 x1 x2 x3 x4 h) (fun S => fn_Md_tamper gx_N x1 x2 x3 x4 S) (fun S => fn_Md_thrown gx_N S) kd_tamper 2 52 74 gx_h2 md_S0 K := by
  refine p1_thr (ci := 14) (y := Int32.ofInt 0) (k := 1) hK (S1 := (va_up md_S0.1 0 (Int32.ofInt 1), md_S0.2)) ?_ rfl ?_ rfl
  · show fn_Md_tamper gx_N x1 x2 x3 x4 md_S0 = _
    unfold fn_Md_tamper fn_Md_tamper_0 fn_Md_tamper_22 fn_Md_tamper_23 fn_Md_tamper_40 fn_Md_tamper_74 fn_Md_tamper_75 fn_Md_tamper_87 fn_Md_tamper_99 fn_Md_tamper_103
    rw [p1_tokm, Option.bind_some]
    simp only [show Int32.ofInt 0 = 0 from rfl, if_true, p1_tam104, ite_self]
  · show fn_GC_tamper gx_N gx_C 2 x1 x2 x3 x4 p1_H = _
    unfold fn_GC_tamper fn_GC_tamper_0 fn_GC_tamper_39
    rw [p1_rc2, Option.bind_some, p1_tok, Option.bind_some]
    exact (if_pos rfl).trans (if_pos p1_room)
theorem p1_limits (hK : ∀ h S, lw_Wf 2 52 74 h → K h S) (x1 x2 : Int32) : lw_D (fun h => fn_GC_limits gx_N gx_C 2 x1 x2 h) (fun S => fn_Md_limits gx_N x1 x2 S) 52 gx_h2 md_S0 K := by
  rcases o_limits gx_N gx_C (h := gx_h2) (S := md_S0) p1_2 rfl x1 x2 with ⟨k1, k2⟩ | ⟨k1, k2⟩
  · exact ⟨_, gx_h2, _, k1, k2, hK _ _ p1_w⟩
  · exact ⟨_, _, _, k1, k2, hK _ _ (p1_wup2 (p1_wup2 p1_w))⟩
theorem p1_authorize (hK : ∀ h S, lw_Wf 2 52 74 h → K h S) (x1 x2 : Int32) : lw_T (fun h => fn_GC_authorize gx_N gx_C 2 x1 x2 h) (fun S => fn_Md_authorize gx_N x1 x2 S) (fun S => fn_Md_thrown gx_N S) kd_authorize 2 52 74 gx_h2 md_S0 K := by
  refine p1_thr (ci := 14) (y := Int32.ofInt 0) (k := 1) hK (S1 := (va_up md_S0.1 0 (Int32.ofInt 1), md_S0.2)) ?_ rfl ?_ rfl
  · show fn_Md_authorize gx_N x1 x2 md_S0 = _
    unfold fn_Md_authorize fn_Md_authorize_0 fn_Md_authorize_28
    rw [p1_tokm, Option.bind_some]
    refine (if_pos rfl).trans ?_
    exact (if_neg (by decide)).trans rfl
  · show fn_GC_authorize gx_N gx_C 2 x1 x2 p1_H = _
    unfold fn_GC_authorize fn_GC_authorize_0
    rw [p1_rc2, Option.bind_some, p1_tok, Option.bind_some]
    exact (if_pos rfl).trans (if_pos p1_room)
theorem p1_fact (hK : ∀ h S, lw_Wf 2 52 74 h → K h S) (x1 x2 : Int32) : lw_T (fun h => fn_GC_fact gx_N gx_C 2 x1 x2 h) (fun S => fn_Md_fact gx_N x1 x2 S) (fun S => fn_Md_thrown gx_N S) kd_fact 2 52 74 gx_h2 md_S0 K := by
  have hle : ¬ x1 < 0 → (0 : Int32) ≤ x1 := fun c => by rw [Int32.le_iff_toInt_le]; rw [Int32.lt_iff_toInt_lt] at c; exact Int.not_lt.mp c
  refine p1_thr (ci := 14) (y := Int32.ofInt 0) (k := 1) hK (S1 := (va_up md_S0.1 0 (Int32.ofInt 1), md_S0.2)) ?_ rfl ?_ rfl
  · show fn_Md_fact gx_N x1 x2 md_S0 = _
    have e22 : fn_Md_fact_22 gx_N x1 x2 md_S0 = some (Int32.ofInt 0, (va_up md_S0.1 0 (Int32.ofInt 1), md_S0.2)) := by
      unfold fn_Md_fact_22 fn_Md_fact_27
      show fn_Md_fact_32 gx_N 100000 x1 x2 (Int32.ofInt 0) _ = _
      rw [show (100000 : Nat) = 99999 + 1 from rfl]
      unfold fn_Md_fact_32
      exact (if_pos (by decide)).trans rfl
    unfold fn_Md_fact fn_Md_fact_0
    by_cases c : x1 < 0
    · rw [if_pos c, e22]
    · rw [if_neg c, if_pos (show md_S0.1 32 ≤ x1 from hle c), e22]
  · show fn_GC_fact gx_N gx_C 2 x1 x2 p1_H = _
    unfold fn_GC_fact fn_GC_fact_0 fn_GC_fact_27
    by_cases c : x1 < 0
    · rw [if_pos c, if_pos p1_room]
    · rw [if_neg c, pu_gr (k := 2) p1_2 rfl, Option.bind_some, pu_gr (k := 0) p1_7 rfl, Option.bind_some, pu_gi (k := 1) p1_8 rfl, Option.bind_some, if_pos (hle c), if_pos p1_room]
theorem p1_token (hK : ∀ h S, lw_Wf 2 52 74 h → K h S) (x1 x2 : Int32) : lw_T (fun h => fn_GC_token gx_N gx_C 2 x1 x2 h) (fun S => fn_Md_token gx_N x1 x2 S) (fun S => fn_Md_thrown gx_N S) kd_token 2 52 74 gx_h2 md_S0 K := by
  refine p1_thr (ci := 14) (y := Int32.ofInt 0) (k := 1) hK (S1 := (va_up md_S0.1 0 (Int32.ofInt 1), md_S0.2)) ?_ rfl ?_ rfl
  · show fn_Md_token gx_N x1 x2 md_S0 = _
    unfold fn_Md_token fn_Md_token_0 fn_Md_token_48 fn_Md_token_49 fn_Md_token_62
    rw [if_pos (by decide), p1_tokm, Option.bind_some]
    rfl
  · show fn_GC_token gx_N gx_C 2 x1 x2 p1_H = _
    unfold fn_GC_token fn_GC_token_0 fn_GC_token_12
    rw [p1_rc2, Option.bind_some, p1_tok, Option.bind_some]
    exact (if_pos rfl).trans (if_pos p1_room)
end PC
