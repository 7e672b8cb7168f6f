/-! frame: GC_authorize, GC_fact, Tk_tell, Lk_tell, GC_token -/
theorem a_GC_authorize_0 {b N : Nat} {C : Nat × Nat} {h0 : ag_H} {a : Nat} (ha : fr_ok b (some a)) {x1 : Int32} {x2 : Int32} {h : ag_H} {res : (Int32 ⊕ Nat) × ag_H} (hyp : fn_GC_authorize_0 N C a x1 x2 h = some res) (hF : fr_H b h0 h) : fr_H b h0 res.2 := by
  unfold fn_GC_authorize_0 at hyp
  obtain ⟨a3, ea3, hyp⟩ := md_bd hyp
  obtain ⟨r3, er3, hyp⟩ := md_bd hyp
  have f3 := a_GC_isToken er3 hF (fr_rc (ha) ea3) 
  rcases fr_if hyp with ⟨q, hyp⟩ | ⟨q, hyp⟩
  · obtain ⟨q50, hyp⟩ := md_ifs hyp
    cases hyp
    exact fr_nw f3 (fr_ob rfl)
  · obtain ⟨r6, er6, hyp⟩ := md_bd hyp
    have f6 := a_GC_isRoot er6 f3 
    rcases fr_if hyp with ⟨q, hyp⟩ | ⟨q, hyp⟩
    · obtain ⟨q49, hyp⟩ := md_ifs hyp
      cases hyp
      exact fr_nw f6 (fr_ob rfl)
    · obtain ⟨g9, eg9, hyp⟩ := md_bd hyp
      obtain ⟨a11, ea11, hyp⟩ := md_bd hyp
      obtain ⟨r11, er11, hyp⟩ := md_bd hyp
      have f11 := a_AL_get er11 f6 (fr_rc (fr_gr f6 (ha) eg9) ea11) 
      obtain ⟨q12, hyp⟩ := md_ifs hyp
      obtain ⟨g15, eg15, hyp⟩ := md_bd hyp
      obtain ⟨g17, eg17, hyp⟩ := md_bd hyp
      obtain ⟨a18, ea18, hyp⟩ := md_bd hyp
      obtain ⟨r18, er18, hyp⟩ := md_bd hyp
      have f18 := a_Jg_begin er18 f11.1 (fr_rc (fr_gr f11.1 (ha) eg15) ea18) 
      obtain ⟨a21, ea21, hyp⟩ := md_bd hyp
      obtain ⟨r21, er21, hyp⟩ := md_bd hyp
      have f21 := a_Tk_isRightFor er21 f18 (fr_rc (f11.2) ea21) 
      rcases fr_if hyp with ⟨q, hyp⟩ | ⟨q, hyp⟩
      · obtain ⟨g45, eg45, hyp⟩ := md_bd hyp
        obtain ⟨a47, ea47, hyp⟩ := md_bd hyp
        obtain ⟨r47, er47, hyp⟩ := md_bd hyp
        have f47 := a_Jg_end er47 f21 (fr_rc (fr_gr f21 (ha) eg45) ea47) 
        cases hyp
        exact f47
      · obtain ⟨a25, ea25, hyp⟩ := md_bd hyp
        obtain ⟨r25, er25, hyp⟩ := md_bd hyp
        have f25 := a_GC_layOut er25 f21 (fr_rc (ha) ea25) (f11.2)
        obtain ⟨g27, eg27, hyp⟩ := md_bd hyp
        obtain ⟨g29, eg29, hyp⟩ := md_bd hyp
        obtain ⟨a30, ea30, hyp⟩ := md_bd hyp
        obtain ⟨r30, er30, hyp⟩ := md_bd hyp
        have f30 := a_Jg_settle er30 f25 (fr_rc (fr_gr f25 (ha) eg27) ea30) 
        rcases fr_if hyp with ⟨q, hyp⟩ | ⟨q, hyp⟩
        · obtain ⟨g40, eg40, hyp⟩ := md_bd hyp
          obtain ⟨a42, ea42, hyp⟩ := md_bd hyp
          obtain ⟨r42, er42, hyp⟩ := md_bd hyp
          have f42 := a_Jg_end er42 f30 (fr_rc (fr_gr f30 (ha) eg40) ea42) 
          cases hyp
          exact f42
        · obtain ⟨g33, eg33, hyp⟩ := md_bd hyp
          obtain ⟨g35, eg35, hyp⟩ := md_bd hyp
          obtain ⟨a36, ea36, hyp⟩ := md_bd hyp
          obtain ⟨r36, er36, hyp⟩ := md_bd hyp
          have f36 := a_Jg_verdict er36 f30 (fr_rc (fr_gr f30 (ha) eg35) ea36) 
          obtain ⟨a37, ea37, hyp⟩ := md_bd hyp
          obtain ⟨r37, er37, hyp⟩ := md_bd hyp
          have f37 := a_Jg_end er37 f36 (fr_rc (fr_gr f30 (ha) eg33) ea37) 
          cases hyp
          exact f37
theorem a_GC_authorize {b N : Nat} {C : Nat × Nat} {h0 : ag_H} {a : Nat} {p1 : Int32} {p2 : Int32} {h : ag_H} {res : (Int32 ⊕ Nat) × ag_H} (hyp : fn_GC_authorize N C a p1 p2 h = some res) (hF : fr_H b h0 h) (ha : fr_ok b (some a)) : fr_H b h0 res.2 := a_GC_authorize_0 ha hyp hF 
theorem a_GC_fact_27 {b N : Nat} {C : Nat × Nat} {h0 : ag_H} {a : Nat} (ha : fr_ok b (some a)) {h : ag_H} {res : (Int32 ⊕ Nat) × ag_H} (hyp : fn_GC_fact_27 N C a h = some res) (hF : fr_H b h0 h) : fr_H b h0 res.2 := by
  unfold fn_GC_fact_27 at hyp
  obtain ⟨q1, hyp⟩ := md_ifs hyp
  cases hyp
  exact fr_nw hF (fr_ob rfl)
theorem a_GC_fact_0 {b N : Nat} {C : Nat × Nat} {h0 : ag_H} {a : Nat} (ha : fr_ok b (some a)) {x1 : Int32} {x2 : Int32} {h : ag_H} {res : (Int32 ⊕ Nat) × ag_H} (hyp : fn_GC_fact_0 N C a x1 x2 h = some res) (hF : fr_H b h0 h) : fr_H b h0 res.2 := by
  unfold fn_GC_fact_0 at hyp
  rcases fr_if hyp with ⟨q, hyp⟩ | ⟨q, hyp⟩
  · exact a_GC_fact_27 ha hyp hF
  · obtain ⟨g5, eg5, hyp⟩ := md_bd hyp
    obtain ⟨g6, eg6, hyp⟩ := md_bd hyp
    obtain ⟨g7, eg7, hyp⟩ := md_bd hyp
    rcases fr_if hyp with ⟨q, hyp⟩ | ⟨q, hyp⟩
    · exact a_GC_fact_27 ha hyp hF
    · rcases fr_if hyp with ⟨q, hyp⟩ | ⟨q, hyp⟩
      · exact a_GC_fact_27 ha hyp hF
      · rcases fr_if hyp with ⟨q, hyp⟩ | ⟨q, hyp⟩
        · obtain ⟨g15, eg15, hyp⟩ := md_bd hyp
          obtain ⟨g16, eg16, hyp⟩ := md_bd hyp
          obtain ⟨g17, eg17, hyp⟩ := md_bd hyp
          obtain ⟨p19, ep19, hyp⟩ := md_bd hyp
          obtain ⟨q19, hyp⟩ := md_ifs hyp
          obtain ⟨p21, ep21, hyp⟩ := md_bd hyp
          obtain ⟨q21, hyp⟩ := md_ifs hyp
          cases hyp
          exact hF
        · exact a_GC_fact_27 ha hyp hF
theorem a_GC_fact {b N : Nat} {C : Nat × Nat} {h0 : ag_H} {a : Nat} {p1 : Int32} {p2 : Int32} {h : ag_H} {res : (Int32 ⊕ Nat) × ag_H} (hyp : fn_GC_fact N C a p1 p2 h = some res) (hF : fr_H b h0 h) (ha : fr_ok b (some a)) : fr_H b h0 res.2 := a_GC_fact_0 ha hyp hF 
theorem a_Tk_tell_40 {b N : Nat} {C : Nat × Nat} {h0 : ag_H} {a : Nat} (ha : fr_ok b (some a)) {s0 : Int32} {h : ag_H} {res : (Int32) × ag_H} (hyp : fn_Tk_tell_40 N C a s0 h = some res) (hF : fr_H b h0 h) : fr_H b h0 res.2 := by
  unfold fn_Tk_tell_40 at hyp
  cases hyp
  exact hF
theorem a_Tk_tell_0 {b N : Nat} {C : Nat × Nat} {h0 : ag_H} {a : Nat} (ha : fr_ok b (some a)) {x1 : Int32} {h : ag_H} {res : (Int32) × ag_H} (hyp : fn_Tk_tell_0 N C a x1 h = some res) (hF : fr_H b h0 h) : fr_H b h0 res.2 := by
  unfold fn_Tk_tell_0 at hyp
  rcases fr_if hyp with ⟨q, hyp⟩ | ⟨q, hyp⟩
  · obtain ⟨g16, eg16, hyp⟩ := md_bd hyp
    obtain ⟨a17, ea17, hyp⟩ := md_bd hyp
    obtain ⟨r17, er17, hyp⟩ := md_bd hyp
    have f17 := a_AL_size er17 hF (fr_rc (fr_gr hF (ha) eg16) ea17) 
    exact a_Tk_tell_40 ha hyp f17 
  · rcases fr_if hyp with ⟨q, hyp⟩ | ⟨q, hyp⟩
    · obtain ⟨g9, eg9, hyp⟩ := md_bd hyp
      rcases fr_if hyp with ⟨q, hyp⟩ | ⟨q, hyp⟩
      · exact a_Tk_tell_40 ha hyp hF
      · exact a_Tk_tell_40 ha hyp hF
    · obtain ⟨g7, eg7, hyp⟩ := md_bd hyp
      exact a_Tk_tell_40 ha hyp hF 
theorem a_Tk_tell {b N : Nat} {C : Nat × Nat} {h0 : ag_H} {a : Nat} {p1 : Int32} {h : ag_H} {res : (Int32) × ag_H} (hyp : fn_Tk_tell N C a p1 h = some res) (hF : fr_H b h0 h) (ha : fr_ok b (some a)) : fr_H b h0 res.2 := a_Tk_tell_0 ha hyp hF 
theorem a_Lk_tell_28 {b N : Nat} {C : Nat × Nat} {h0 : ag_H} {a : Nat} (ha : fr_ok b (some a)) {s0 : Int32} {h : ag_H} {res : (Int32) × ag_H} (hyp : fn_Lk_tell_28 N C a s0 h = some res) (hF : fr_H b h0 h) : fr_H b h0 res.2 := by
  unfold fn_Lk_tell_28 at hyp
  cases hyp
  exact hF
theorem a_Lk_tell_0 {b N : Nat} {C : Nat × Nat} {h0 : ag_H} {a : Nat} (ha : fr_ok b (some a)) {x1 : Int32} {h : ag_H} {res : (Int32) × ag_H} (hyp : fn_Lk_tell_0 N C a x1 h = some res) (hF : fr_H b h0 h) : fr_H b h0 res.2 := by
  unfold fn_Lk_tell_0 at hyp
  rcases fr_if hyp with ⟨q, hyp⟩ | ⟨q, hyp⟩
  · obtain ⟨g13, eg13, hyp⟩ := md_bd hyp
    exact a_Lk_tell_28 ha hyp hF 
  · rcases fr_if hyp with ⟨q, hyp⟩ | ⟨q, hyp⟩
    · obtain ⟨g10, eg10, hyp⟩ := md_bd hyp
      exact a_Lk_tell_28 ha hyp hF 
    · obtain ⟨g8, eg8, hyp⟩ := md_bd hyp
      exact a_Lk_tell_28 ha hyp hF 
theorem a_Lk_tell {b N : Nat} {C : Nat × Nat} {h0 : ag_H} {a : Nat} {p1 : Int32} {h : ag_H} {res : (Int32) × ag_H} (hyp : fn_Lk_tell N C a p1 h = some res) (hF : fr_H b h0 h) (ha : fr_ok b (some a)) : fr_H b h0 res.2 := a_Lk_tell_0 ha hyp hF 
theorem a_GC_token_12 {b N : Nat} {C : Nat × Nat} {h0 : ag_H} {a : Nat} (ha : fr_ok b (some a)) {h : ag_H} {res : (Int32 ⊕ Nat) × ag_H} (hyp : fn_GC_token_12 N C a h = some res) (hF : fr_H b h0 h) : fr_H b h0 res.2 := by
  unfold fn_GC_token_12 at hyp
  obtain ⟨q1, hyp⟩ := md_ifs hyp
  cases hyp
  exact fr_nw hF (fr_ob rfl)
theorem a_GC_token_75 {b N : Nat} {C : Nat × Nat} {h0 : ag_H} {a : Nat} (ha : fr_ok b (some a)) {h : ag_H} {res : (Int32 ⊕ Nat) × ag_H} (hyp : fn_GC_token_75 N C a h = some res) (hF : fr_H b h0 h) : fr_H b h0 res.2 := by
  unfold fn_GC_token_75 at hyp
  obtain ⟨q1, hyp⟩ := md_ifs hyp
  cases hyp
  exact fr_nw hF (fr_ob rfl)
theorem a_GC_token_116 {b N : Nat} {C : Nat × Nat} {h0 : ag_H} {a : Nat} (ha : fr_ok b (some a)) {s0 : Int32} {h : ag_H} {res : (Int32 ⊕ Nat) × ag_H} (hyp : fn_GC_token_116 N C a s0 h = some res) (hF : fr_H b h0 h) : fr_H b h0 res.2 := by
  unfold fn_GC_token_116 at hyp
  cases hyp
  exact hF
theorem a_GC_token_72 {b N : Nat} {C : Nat × Nat} {h0 : ag_H} {a : Nat} (ha : fr_ok b (some a)) {x3 : Option Nat} {x4 : Int32} {x5 : Int32} {s0 : Int32} {s1 : Int32} {h : ag_H} {res : (Int32 ⊕ Nat) × ag_H} (hyp : fn_GC_token_72 N C a x3 x4 x5 s0 s1 h = some res) (hF : fr_H b h0 h) (hx3 : fr_ok b x3) : fr_H b h0 res.2 := by
  unfold fn_GC_token_72 at hyp
  rcases fr_if hyp with ⟨q, hyp⟩ | ⟨q, hyp⟩
  · rcases fr_if hyp with ⟨q, hyp⟩ | ⟨q, hyp⟩
    · obtain ⟨a13, ea13, hyp⟩ := md_bd hyp
      obtain ⟨r13, er13, hyp⟩ := md_bd hyp
      have f13 := a_Tk_tell er13 hF (fr_rc (hx3) ea13) 
      exact a_GC_token_116 ha hyp f13 
    · obtain ⟨g5, eg5, hyp⟩ := md_bd hyp
      obtain ⟨a7, ea7, hyp⟩ := md_bd hyp
      obtain ⟨r7, er7, hyp⟩ := md_bd hyp
      have f7 := a_AL_get er7 hF (fr_rc (fr_gr hF (hx3) eg5) ea7) 
      obtain ⟨q8, hyp⟩ := md_ifs hyp
      obtain ⟨a10, ea10, hyp⟩ := md_bd hyp
      obtain ⟨r10, er10, hyp⟩ := md_bd hyp
      have f10 := a_Lk_tell er10 f7.1 (fr_rc (f7.2) ea10) 
      exact a_GC_token_116 ha hyp f10 
  · exact a_GC_token_75 ha hyp hF
theorem a_GC_token_0 {b N : Nat} {C : Nat × Nat} {h0 : ag_H} {a : Nat} (ha : fr_ok b (some a)) {x1 : Int32} {x2 : Int32} {h : ag_H} {res : (Int32 ⊕ Nat) × ag_H} (hyp : fn_GC_token_0 N C a x1 x2 h = some res) (hF : fr_H b h0 h) : fr_H b h0 res.2 := by
  unfold fn_GC_token_0 at hyp
  obtain ⟨a3, ea3, hyp⟩ := md_bd hyp
  obtain ⟨r3, er3, hyp⟩ := md_bd hyp
  have f3 := a_GC_isToken er3 hF (fr_rc (ha) ea3) 
  rcases fr_if hyp with ⟨q, hyp⟩ | ⟨q, hyp⟩
  · exact a_GC_token_12 ha hyp f3
  · rcases fr_if hyp with ⟨q, hyp⟩ | ⟨q, hyp⟩
    · obtain ⟨g8, eg8, hyp⟩ := md_bd hyp
      obtain ⟨a10, ea10, hyp⟩ := md_bd hyp
      obtain ⟨r10, er10, hyp⟩ := md_bd hyp
      have f10 := a_AL_get er10 f3 (fr_rc (fr_gr f3 (ha) eg8) ea10) 
      obtain ⟨q11, hyp⟩ := md_ifs hyp
      obtain ⟨q15, hyp⟩ := md_ifs hyp
      obtain ⟨q19, hyp⟩ := md_ifs hyp
      rcases fr_if hyp with ⟨q, hyp⟩ | ⟨q, hyp⟩
      · exact a_GC_token_75 ha hyp f10.1
      · rcases fr_if hyp with ⟨q, hyp⟩ | ⟨q, hyp⟩
        · exact a_GC_token_72 ha hyp f10.1 (f10.2)
        · obtain ⟨g28, eg28, hyp⟩ := md_bd hyp
          obtain ⟨a29, ea29, hyp⟩ := md_bd hyp
          obtain ⟨r29, er29, hyp⟩ := md_bd hyp
          have f29 := a_AL_size er29 f10.1 (fr_rc (fr_gr f10.1 (f10.2) eg28) ea29) 
          exact a_GC_token_72 ha hyp f29 (f10.2)
    · exact a_GC_token_12 ha hyp f3
theorem a_GC_token {b N : Nat} {C : Nat × Nat} {h0 : ag_H} {a : Nat} {p1 : Int32} {p2 : Int32} {h : ag_H} {res : (Int32 ⊕ Nat) × ag_H} (hyp : fn_GC_token N C a p1 p2 h = some res) (hF : fr_H b h0 h) (ha : fr_ok b (some a)) : fr_H b h0 res.2 := a_GC_token_0 ha hyp hF 
