/-! frame: Jg_fit, Jg_bind, Jg_search, Jg_makeRound, Jg_settle, Jg_lookAtChecks, Jg_lookAtPolicies, Jg_verdict -/
theorem a_Jg_fit_33 {b N : Nat} {C : Nat × Nat} {h0 : ag_H} {a : Nat} (ha : fr_ok b (some a)) {h : ag_H} {res : (Int32) × ag_H} (hyp : fn_Jg_fit_33 N C a h = some res) (hF : fr_H b h0 h) : fr_H b h0 res.2 := by
  unfold fn_Jg_fit_33 at hyp
  cases hyp
  exact hF
theorem a_Jg_fit_72 {b N : Nat} {C : Nat × Nat} {h0 : ag_H} {a : Nat} (ha : fr_ok b (some a)) {s0 : Int32} {h : ag_H} {res : (Int32) × ag_H} (hyp : fn_Jg_fit_72 N C a s0 h = some res) (hF : fr_H b h0 h) : fr_H b h0 res.2 := by
  unfold fn_Jg_fit_72 at hyp
  cases hyp
  exact hF
theorem a_Jg_fit_0 {b N : Nat} {C : Nat × Nat} {h0 : ag_H} {a : Nat} (ha : fr_ok b (some a)) {x1 : Option Nat} {x2 : Option Nat} {x3 : Int32} {h : ag_H} {res : (Int32) × ag_H} (hyp : fn_Jg_fit_0 N C a x1 x2 x3 h = some res) (hF : fr_H b h0 h) (hx1 : fr_ok b x1) (hx2 : fr_ok b x2) : fr_H b h0 res.2 := by
  unfold fn_Jg_fit_0 at hyp
  obtain ⟨p3, ep3, hyp⟩ := md_bd hyp
  obtain ⟨q3, hyp⟩ := md_ifs hyp
  obtain ⟨g5, eg5, hyp⟩ := md_bd hyp
  rcases fr_if hyp with ⟨q, hyp⟩ | ⟨q, hyp⟩
  · obtain ⟨p9, ep9, hyp⟩ := md_bd hyp
    obtain ⟨q9, hyp⟩ := md_ifs hyp
    obtain ⟨g11, eg11, hyp⟩ := md_bd hyp
    rcases fr_if hyp with ⟨q, hyp⟩ | ⟨q, hyp⟩
    · obtain ⟨p15, ep15, hyp⟩ := md_bd hyp
      obtain ⟨q15, hyp⟩ := md_ifs hyp
      obtain ⟨g17, eg17, hyp⟩ := md_bd hyp
      rcases fr_if hyp with ⟨q, hyp⟩ | ⟨q, hyp⟩
      · obtain ⟨g24, eg24, hyp⟩ := md_bd hyp
        obtain ⟨p27, ep27, hyp⟩ := md_bd hyp
        obtain ⟨q27, hyp⟩ := md_ifs hyp
        obtain ⟨a29, ea29, hyp⟩ := md_bd hyp
        obtain ⟨r29, er29, hyp⟩ := md_bd hyp
        have f29 := a_Jg_fitTerm er29 hF (fr_rc (ha) ea29) 
        rcases fr_if hyp with ⟨q, hyp⟩ | ⟨q, hyp⟩
        · exact a_Jg_fit_72 ha hyp f29
        · obtain ⟨g36, eg36, hyp⟩ := md_bd hyp
          obtain ⟨p39, ep39, hyp⟩ := md_bd hyp
          obtain ⟨q39, hyp⟩ := md_ifs hyp
          obtain ⟨a41, ea41, hyp⟩ := md_bd hyp
          obtain ⟨r41, er41, hyp⟩ := md_bd hyp
          have f41 := a_Jg_fitTerm er41 f29 (fr_rc (ha) ea41) 
          exact a_Jg_fit_72 ha hyp f41 
      · exact a_Jg_fit_33 ha hyp hF
    · exact a_Jg_fit_33 ha hyp hF
  · exact a_Jg_fit_33 ha hyp hF
theorem a_Jg_fit {b N : Nat} {C : Nat × Nat} {h0 : ag_H} {a : Nat} {p1 : Option Nat} {p2 : Option Nat} {p3 : Int32} {h : ag_H} {res : (Int32) × ag_H} (hyp : fn_Jg_fit N C a p1 p2 p3 h = some res) (hF : fr_H b h0 h) (ha : fr_ok b (some a)) (hp1 : fr_ok b p1) (hp2 : fr_ok b p2) : fr_H b h0 res.2 := a_Jg_fit_0 ha hyp hF hp1 hp2
theorem a_Jg_bind_110 {b N : Nat} {C : Nat × Nat} {h0 : ag_H} {a : Nat} (ha : fr_ok b (some a)) {kR : Nat → Option Nat → Int32 → Int32 → Int32 → ag_H → Option ((Int32) × ag_H)} (hkR : ∀ (ua : Nat) (u0 : Option Nat) (u1 : Int32) (u2 : Int32) (u3 : Int32) (hh : ag_H) (res : (Int32) × ag_H), kR ua u0 u1 u2 u3 hh = some res → fr_H b h0 hh → fr_ok b (some ua) → fr_ok b u0 → fr_H b h0 res.2) {h : ag_H} {res : (Int32) × ag_H} (hyp : fn_Jg_bind_110 N C kR a h = some res) (hF : fr_H b h0 h) : fr_H b h0 res.2 := by
  unfold fn_Jg_bind_110 at hyp
  cases hyp
  exact hF
theorem a_Jg_bind_104 {b N : Nat} {C : Nat × Nat} {h0 : ag_H} {a : Nat} (ha : fr_ok b (some a)) {kR : Nat → Option Nat → Int32 → Int32 → Int32 → ag_H → Option ((Int32) × ag_H)} (hkR : ∀ (ua : Nat) (u0 : Option Nat) (u1 : Int32) (u2 : Int32) (u3 : Int32) (hh : ag_H) (res : (Int32) × ag_H), kR ua u0 u1 u2 u3 hh = some res → fr_H b h0 hh → fr_ok b (some ua) → fr_ok b u0 → fr_H b h0 res.2) {k39 : Option Nat → Int32 → Int32 → Int32 → Option Nat → Int32 → ag_H → Option ((Int32) × ag_H)} (hk39 : ∀ (res : (Int32) × ag_H) (y1 : Option Nat) (y2 : Int32) (y3 : Int32) (y4 : Int32) (y5 : Option Nat) (y6 : Int32) (hh : ag_H), k39 y1 y2 y3 y4 y5 y6 hh = some res → fr_H b h0 hh → fr_ok b y1 → fr_ok b y5 → fr_H b h0 res.2) {x1 : Option Nat} {x2 : Int32} {x3 : Int32} {x4 : Int32} {x5 : Option Nat} {x6 : Int32} {h : ag_H} {res : (Int32) × ag_H} (hyp : fn_Jg_bind_104 N C kR a k39 x1 x2 x3 x4 x5 x6 h = some res) (hF : fr_H b h0 h) (hx1 : fr_ok b x1) (hx5 : fr_ok b x5) : fr_H b h0 res.2 := by
  unfold fn_Jg_bind_104 at hyp
  exact hk39 _ _ _ _ _ _ _ _ hyp hF (hx1) (hx5)
theorem a_Jg_bind_39 {b N : Nat} {C : Nat × Nat} {h0 : ag_H} {a : Nat} (ha : fr_ok b (some a)) {kR : Nat → Option Nat → Int32 → Int32 → Int32 → ag_H → Option ((Int32) × ag_H)} (hkR : ∀ (ua : Nat) (u0 : Option Nat) (u1 : Int32) (u2 : Int32) (u3 : Int32) (hh : ag_H) (res : (Int32) × ag_H), kR ua u0 u1 u2 u3 hh = some res → fr_H b h0 hh → fr_ok b (some ua) → fr_ok b u0 → fr_H b h0 res.2) : ∀ (n : Nat) (res : (Int32) × ag_H) (x1 : Option Nat) (x2 : Int32) (x3 : Int32) (x4 : Int32) (x5 : Option Nat) (x6 : Int32) (h : ag_H) , fn_Jg_bind_39 N C kR a n x1 x2 x3 x4 x5 x6 h = some res → fr_H b h0 h → fr_ok b x1 → fr_ok b x5 → fr_H b h0 res.2 := by
  intro n
  induction n with
  | zero =>
    intro res x1 x2 x3 x4 x5 x6 h hyp
    cases hyp
  | succ n ih =>
    intro res x1 x2 x3 x4 x5 x6 h hyp hF hx1 hx5
    rw [fe_Jg_bind_39] at hyp
    obtain ⟨g3, eg3, hyp⟩ := md_bd hyp
    rcases fr_if hyp with ⟨q, hyp⟩ | ⟨q, hyp⟩
    · exact a_Jg_bind_110 ha hkR hyp hF
    · obtain ⟨g6, eg6, hyp⟩ := md_bd hyp
      obtain ⟨g7, eg7, hyp⟩ := md_bd hyp
      rcases fr_if hyp with ⟨q, hyp⟩ | ⟨q, hyp⟩
      · obtain ⟨g10, eg10, hyp⟩ := md_bd hyp
        obtain ⟨g11, eg11, hyp⟩ := md_bd hyp
        obtain ⟨p13, ep13, hyp⟩ := md_bd hyp
        obtain ⟨q13, hyp⟩ := md_ifs hyp
        obtain ⟨a19, ea19, hyp⟩ := md_bd hyp
        obtain ⟨r19, er19, hyp⟩ := md_bd hyp
        have f19 := a_Jg_fit er19 hF (fr_rc (ha) ea19) (hx5) (fr_ao hF (fr_gr hF (fr_gr hF (ha) eg10) eg11) ep13 _)
        rcases fr_if hyp with ⟨q, hyp⟩ | ⟨q, hyp⟩
        · exact a_Jg_bind_104 ha hkR ih hyp f19 (hx1) (hx5)
        · obtain ⟨p33, ep33, hyp⟩ := md_bd hyp
          obtain ⟨q33, hyp⟩ := md_ifs hyp
          obtain ⟨a35, ea35, hyp⟩ := md_bd hyp
          obtain ⟨r35, er35, hyp⟩ := md_bd hyp
          have f35 := hkR _ _ _ _ _ _ _ er35 f19 (fr_rc (ha) ea35) (hx1)
          exact a_Jg_bind_104 ha hkR ih hyp f35 (hx1) (hx5)
      · exact a_Jg_bind_110 ha hkR hyp hF
theorem a_Jg_bind_0 {b N : Nat} {C : Nat × Nat} {h0 : ag_H} {a : Nat} (ha : fr_ok b (some a)) {kR : Nat → Option Nat → Int32 → Int32 → Int32 → ag_H → Option ((Int32) × ag_H)} (hkR : ∀ (ua : Nat) (u0 : Option Nat) (u1 : Int32) (u2 : Int32) (u3 : Int32) (hh : ag_H) (res : (Int32) × ag_H), kR ua u0 u1 u2 u3 hh = some res → fr_H b h0 hh → fr_ok b (some ua) → fr_ok b u0 → fr_H b h0 res.2) {x1 : Option Nat} {x2 : Int32} {x3 : Int32} {x4 : Int32} {h : ag_H} {res : (Int32) × ag_H} (hyp : fn_Jg_bind_0 N C kR a x1 x2 x3 x4 h = some res) (hF : fr_H b h0 h) (hx1 : fr_ok b x1) : fr_H b h0 res.2 := by
  unfold fn_Jg_bind_0 at hyp
  obtain ⟨g3, eg3, hyp⟩ := md_bd hyp
  obtain ⟨a4, ea4, hyp⟩ := md_bd hyp
  obtain ⟨r4, er4, hyp⟩ := md_bd hyp
  have f4 := a_AL_size er4 hF (fr_rc (fr_gr hF (hx1) eg3) ea4) 
  rcases fr_if hyp with ⟨q, hyp⟩ | ⟨q, hyp⟩
  · obtain ⟨g7, eg7, hyp⟩ := md_bd hyp
    obtain ⟨a9, ea9, hyp⟩ := md_bd hyp
    obtain ⟨r9, er9, hyp⟩ := md_bd hyp
    have f9 := a_AL_get er9 f4 (fr_rc (fr_gr f4 (hx1) eg7) ea9) 
    obtain ⟨q10, hyp⟩ := md_ifs hyp
    exact a_Jg_bind_39 ha hkR N _ _ _ _ _ _ _ _ hyp f9.1 (hx1) (f9.2)
  · obtain ⟨a17, ea17, hyp⟩ := md_bd hyp
    obtain ⟨r17, er17, hyp⟩ := md_bd hyp
    have f17 := a_Jg_finish er17 f4 (fr_rc (ha) ea17) (hx1)
    cases hyp
    exact f17
theorem a_Jg_bind {b N : Nat} {C : Nat × Nat} {h0 : ag_H} {kR : Nat → Option Nat → Int32 → Int32 → Int32 → ag_H → Option ((Int32) × ag_H)} (hkR : ∀ (ua : Nat) (u0 : Option Nat) (u1 : Int32) (u2 : Int32) (u3 : Int32) (hh : ag_H) (res : (Int32) × ag_H), kR ua u0 u1 u2 u3 hh = some res → fr_H b h0 hh → fr_ok b (some ua) → fr_ok b u0 → fr_H b h0 res.2) {a : Nat} {p1 : Option Nat} {p2 : Int32} {p3 : Int32} {p4 : Int32} {h : ag_H} {res : (Int32) × ag_H} (hyp : fn_Jg_bind N C kR a p1 p2 p3 p4 h = some res) (hF : fr_H b h0 h) (ha : fr_ok b (some a)) (hp1 : fr_ok b p1) : fr_H b h0 res.2 := a_Jg_bind_0 ha hkR hyp hF hp1
theorem a_Jg_bindR {b N : Nat} {C : Nat × Nat} {h0 : ag_H} : ∀ (n : Nat) (a : Nat) (p1 : Option Nat) (p2 : Int32) (p3 : Int32) (p4 : Int32) (h : ag_H) (res : (Int32) × ag_H), fn_Jg_bindR N C n a p1 p2 p3 p4 h = some res → fr_H b h0 h → fr_ok b (some a) → fr_ok b p1 → fr_H b h0 res.2
  | 0, _, _, _, _, _, _, _, hyp, _, _, _ => by cases hyp
  | n + 1, a, p1, p2, p3, p4, h, res, hyp, hF, ha, hp1 => a_Jg_bind (fun u0 u1 u2 u3 u4 u5 r hy => a_Jg_bindR n u0 u1 u2 u3 u4 u5 r hy) hyp hF ha hp1
theorem a_Jg_search_23 {b N : Nat} {C : Nat × Nat} {h0 : ag_H} {a : Nat} (ha : fr_ok b (some a)) {x1 : Option Nat} {x3 : Int32} {s0 : Option Nat} {s1 : Int32} {s2 : Int32} {h : ag_H} {res : (Int32) × ag_H} (hyp : fn_Jg_search_23 N C a x1 x3 s0 s1 s2 h = some res) (hF : fr_H b h0 h) (hx1 : fr_ok b x1) (hs0 : fr_ok b s0) : fr_H b h0 res.2 := by
  unfold fn_Jg_search_23 at hyp
  obtain ⟨h2, eh2, hyp⟩ := md_bd hyp
  have hF2 : fr_H b h0 h2 := fr_pf hF (hs0) fr_vi eh2
  obtain ⟨h5, eh5, hyp⟩ := md_bd hyp
  have hF5 : fr_H b h0 h5 := fr_pf hF2 (ha) fr_vi eh5
  obtain ⟨h8, eh8, hyp⟩ := md_bd hyp
  have hF8 : fr_H b h0 h8 := fr_pf hF5 (ha) fr_vi eh8
  obtain ⟨h11, eh11, hyp⟩ := md_bd hyp
  have hF11 : fr_H b h0 h11 := fr_pf hF8 (ha) fr_vi eh11
  obtain ⟨a17, ea17, hyp⟩ := md_bd hyp
  obtain ⟨r17, er17, hyp⟩ := md_bd hyp
  have f17 := a_Jg_bindR 5 _ _ _ _ _ _ _ er17 hF11 (fr_rc (ha) ea17) (hx1)
  cases hyp
  exact f17
theorem a_Jg_search_0 {b N : Nat} {C : Nat × Nat} {h0 : ag_H} {a : Nat} (ha : fr_ok b (some a)) {x1 : Option Nat} {x2 : Int32} {h : ag_H} {res : (Int32) × ag_H} (hyp : fn_Jg_search_0 N C a x1 x2 h = some res) (hF : fr_H b h0 h) (hx1 : fr_ok b x1) : fr_H b h0 res.2 := by
  unfold fn_Jg_search_0 at hyp
  obtain ⟨g10, eg10, hyp⟩ := md_bd hyp
  rcases fr_if hyp with ⟨q, hyp⟩ | ⟨q, hyp⟩
  · exact a_Jg_search_23 ha hyp hF (hx1) (ha)
  · exact a_Jg_search_23 ha hyp hF (hx1) (ha)
theorem a_Jg_search {b N : Nat} {C : Nat × Nat} {h0 : ag_H} {a : Nat} {p1 : Option Nat} {p2 : Int32} {h : ag_H} {res : (Int32) × ag_H} (hyp : fn_Jg_search N C a p1 p2 h = some res) (hF : fr_H b h0 h) (ha : fr_ok b (some a)) (hp1 : fr_ok b p1) : fr_H b h0 res.2 := a_Jg_search_0 ha hyp hF hp1
theorem a_Jg_makeRound_86 {b N : Nat} {C : Nat × Nat} {h0 : ag_H} {a : Nat} (ha : fr_ok b (some a)) {k18 : Int32 → ag_H → Option ((Int32) × ag_H)} {k35 : Int32 → Option Nat → Int32 → ag_H → Option ((Int32) × ag_H)} (hk18 : ∀ (res : (Int32) × ag_H) (y1 : Int32) (hh : ag_H), k18 y1 hh = some res → fr_H b h0 hh → fr_H b h0 res.2) (hk35 : ∀ (res : (Int32) × ag_H) (y1 : Int32) (y2 : Option Nat) (y3 : Int32) (hh : ag_H), k35 y1 y2 y3 hh = some res → fr_H b h0 hh → fr_ok b y2 → fr_H b h0 res.2) {x1 : Int32} {x2 : Option Nat} {x3 : Int32} {h : ag_H} {res : (Int32) × ag_H} (hyp : fn_Jg_makeRound_86 N C a k18 k35 x1 x2 x3 h = some res) (hF : fr_H b h0 h) (hx2 : fr_ok b x2) : fr_H b h0 res.2 := by
  unfold fn_Jg_makeRound_86 at hyp
  exact hk35 _ _ _ _ _ hyp hF (hx2)
theorem a_Jg_makeRound_35 {b N : Nat} {C : Nat × Nat} {h0 : ag_H} {a : Nat} (ha : fr_ok b (some a)) {k18 : Int32 → ag_H → Option ((Int32) × ag_H)} (hk18 : ∀ (res : (Int32) × ag_H) (y1 : Int32) (hh : ag_H), k18 y1 hh = some res → fr_H b h0 hh → fr_H b h0 res.2) : ∀ (n : Nat) (res : (Int32) × ag_H) (x1 : Int32) (x2 : Option Nat) (x3 : Int32) (h : ag_H) , fn_Jg_makeRound_35 N C a k18 n x1 x2 x3 h = some res → fr_H b h0 h → fr_ok b x2 → fr_H b h0 res.2 := by
  intro n
  induction n with
  | zero =>
    intro res x1 x2 x3 h hyp
    cases hyp
  | succ n ih =>
    intro res x1 x2 x3 h hyp hF hx2
    rw [fe_Jg_makeRound_35] at hyp
    obtain ⟨a3, ea3, hyp⟩ := md_bd hyp
    obtain ⟨r3, er3, hyp⟩ := md_bd hyp
    have f3 := a_AL_size er3 hF (fr_rc (hx2) ea3) 
    rcases fr_if hyp with ⟨q, hyp⟩ | ⟨q, hyp⟩
    · exact hk18 _ _ _ hyp f3
    · obtain ⟨a9, ea9, hyp⟩ := md_bd hyp
      obtain ⟨r9, er9, hyp⟩ := md_bd hyp
      have f9 := a_AL_get er9 f3 (fr_rc (hx2) ea9) 
      obtain ⟨q10, hyp⟩ := md_ifs hyp
      obtain ⟨g13, eg13, hyp⟩ := md_bd hyp
      rcases fr_if hyp with ⟨q, hyp⟩ | ⟨q, hyp⟩
      · obtain ⟨a19, ea19, hyp⟩ := md_bd hyp
        obtain ⟨r19, er19, hyp⟩ := md_bd hyp
        have f19 := a_Jg_search er19 f9.1 (fr_rc (ha) ea19) (f9.2)
        obtain ⟨g22, eg22, hyp⟩ := md_bd hyp
        obtain ⟨g24, eg24, hyp⟩ := md_bd hyp
        obtain ⟨h26, eh26, hyp⟩ := md_bd hyp
        have hF26 : fr_H b h0 h26 := fr_pf f19 (ha) fr_vi eh26
        exact a_Jg_makeRound_86 ha hk18 ih hyp hF26 (hx2)
      · exact a_Jg_makeRound_86 ha hk18 ih hyp f9.1 (hx2)
theorem a_Jg_makeRound_18 {b N : Nat} {C : Nat × Nat} {h0 : ag_H} {a : Nat} (ha : fr_ok b (some a)) : ∀ (n : Nat) (res : (Int32) × ag_H) (x1 : Int32) (h : ag_H) , fn_Jg_makeRound_18 N C a n x1 h = some res → fr_H b h0 h → fr_H b h0 res.2 := by
  intro n
  induction n with
  | zero =>
    intro res x1 h hyp
    cases hyp
  | succ n ih =>
    intro res x1 h hyp hF 
    rw [fe_Jg_makeRound_18] at hyp
    rcases fr_if hyp with ⟨q, hyp⟩ | ⟨q, hyp⟩
    · cases hyp
      exact hF
    · obtain ⟨g6, eg6, hyp⟩ := md_bd hyp
      obtain ⟨p8, ep8, hyp⟩ := md_bd hyp
      obtain ⟨q8, hyp⟩ := md_ifs hyp
      obtain ⟨g9, eg9, hyp⟩ := md_bd hyp
      exact a_Jg_makeRound_35 ha ih N _ _ _ _ _ hyp hF (fr_gr hF (fr_ao hF (fr_gr hF (ha) eg6) ep8 _) eg9)
theorem a_Jg_makeRound_0 {b N : Nat} {C : Nat × Nat} {h0 : ag_H} {a : Nat} (ha : fr_ok b (some a)) {h : ag_H} {res : (Int32) × ag_H} (hyp : fn_Jg_makeRound_0 N C a h = some res) (hF : fr_H b h0 h) : fr_H b h0 res.2 := by
  unfold fn_Jg_makeRound_0 at hyp
  obtain ⟨g3, eg3, hyp⟩ := md_bd hyp
  obtain ⟨g4, eg4, hyp⟩ := md_bd hyp
  obtain ⟨h5, eh5, hyp⟩ := md_bd hyp
  have hF5 : fr_H b h0 h5 := fr_pf hF (ha) fr_vi eh5
  obtain ⟨h8, eh8, hyp⟩ := md_bd hyp
  have hF8 : fr_H b h0 h8 := fr_pf hF5 (ha) fr_vi eh8
  exact a_Jg_makeRound_18 ha N _ _ _ hyp hF8 
theorem a_Jg_makeRound {b N : Nat} {C : Nat × Nat} {h0 : ag_H} {a : Nat} {h : ag_H} {res : (Int32) × ag_H} (hyp : fn_Jg_makeRound N C a h = some res) (hF : fr_H b h0 h) (ha : fr_ok b (some a)) : fr_H b h0 res.2 := a_Jg_makeRound_0 ha hyp hF 
theorem a_Jg_settle_67 {b N : Nat} {C : Nat × Nat} {h0 : ag_H} {a : Nat} (ha : fr_ok b (some a)) {h : ag_H} {res : (Int32) × ag_H} (hyp : fn_Jg_settle_67 N C a h = some res) (hF : fr_H b h0 h) : fr_H b h0 res.2 := by
  unfold fn_Jg_settle_67 at hyp
  obtain ⟨q2, hyp⟩ := md_ifs hyp
  cases hyp
  exact hF
theorem a_Jg_settle_61 {b N : Nat} {C : Nat × Nat} {h0 : ag_H} {a : Nat} (ha : fr_ok b (some a)) {k6 : Int32 → Int32 → ag_H → Option ((Int32) × ag_H)} (hk6 : ∀ (res : (Int32) × ag_H) (y1 : Int32) (y2 : Int32) (hh : ag_H), k6 y1 y2 hh = some res → fr_H b h0 hh → fr_H b h0 res.2) {x1 : Int32} {x2 : Int32} {h : ag_H} {res : (Int32) × ag_H} (hyp : fn_Jg_settle_61 N C a k6 x1 x2 h = some res) (hF : fr_H b h0 h) : fr_H b h0 res.2 := by
  unfold fn_Jg_settle_61 at hyp
  exact hk6 _ _ _ _ hyp hF 
theorem a_Jg_settle_6 {b N : Nat} {C : Nat × Nat} {h0 : ag_H} {a : Nat} (ha : fr_ok b (some a)) : ∀ (n : Nat) (res : (Int32) × ag_H) (x1 : Int32) (x2 : Int32) (h : ag_H) , fn_Jg_settle_6 N C a n x1 x2 h = some res → fr_H b h0 h → fr_H b h0 res.2 := by
  intro n
  induction n with
  | zero =>
    intro res x1 x2 h hyp
    cases hyp
  | succ n ih =>
    intro res x1 x2 h hyp hF 
    rw [fe_Jg_settle_6] at hyp
    rcases fr_if hyp with ⟨q, hyp⟩ | ⟨q, hyp⟩
    · exact a_Jg_settle_67 ha hyp hF
    · obtain ⟨g5, eg5, hyp⟩ := md_bd hyp
      obtain ⟨g6, eg6, hyp⟩ := md_bd hyp
      rcases fr_if hyp with ⟨q, hyp⟩ | ⟨q, hyp⟩
      · obtain ⟨a9, ea9, hyp⟩ := md_bd hyp
        obtain ⟨r9, er9, hyp⟩ := md_bd hyp
        have f9 := a_Jg_makeRound er9 hF (fr_rc (ha) ea9) 
        obtain ⟨g12, eg12, hyp⟩ := md_bd hyp
        obtain ⟨h15, eh15, hyp⟩ := md_bd hyp
        have hF15 : fr_H b h0 h15 := fr_pf f9 (ha) fr_vi eh15
        obtain ⟨g17, eg17, hyp⟩ := md_bd hyp
        obtain ⟨g18, eg18, hyp⟩ := md_bd hyp
        obtain ⟨g20, eg20, hyp⟩ := md_bd hyp
        rcases fr_if hyp with ⟨q, hyp⟩ | ⟨q, hyp⟩
        · obtain ⟨g23, eg23, hyp⟩ := md_bd hyp
          obtain ⟨g24, eg24, hyp⟩ := md_bd hyp
          rcases fr_if hyp with ⟨q, hyp⟩ | ⟨q, hyp⟩
          · obtain ⟨q27, hyp⟩ := md_ifs hyp
            cases hyp
            exact hF15
          · exact a_Jg_settle_61 ha ih hyp hF15
        · exact a_Jg_settle_61 ha ih hyp hF15
      · exact a_Jg_settle_67 ha hyp hF
theorem a_Jg_settle_0 {b N : Nat} {C : Nat × Nat} {h0 : ag_H} {a : Nat} (ha : fr_ok b (some a)) {x1 : Int32} {h : ag_H} {res : (Int32) × ag_H} (hyp : fn_Jg_settle_0 N C a x1 h = some res) (hF : fr_H b h0 h) : fr_H b h0 res.2 := by
  unfold fn_Jg_settle_0 at hyp
  obtain ⟨a2, ea2, hyp⟩ := md_bd hyp
  obtain ⟨r2, er2, hyp⟩ := md_bd hyp
  have f2 := a_Jg_layFacts er2 hF (fr_rc (ha) ea2) 
  exact a_Jg_settle_6 ha N _ _ _ _ hyp f2 
theorem a_Jg_settle {b N : Nat} {C : Nat × Nat} {h0 : ag_H} {a : Nat} {p1 : Int32} {h : ag_H} {res : (Int32) × ag_H} (hyp : fn_Jg_settle N C a p1 h = some res) (hF : fr_H b h0 h) (ha : fr_ok b (some a)) : fr_H b h0 res.2 := a_Jg_settle_0 ha hyp hF 
theorem a_Jg_lookAtChecks_142 {b N : Nat} {C : Nat × Nat} {h0 : ag_H} {a : Nat} (ha : fr_ok b (some a)) {k6 : Int32 → Int32 → Int32 → ag_H → Option ((Int32) × ag_H)} {k25 : Int32 → Int32 → Int32 → Option Nat → Int32 → ag_H → Option ((Int32) × ag_H)} (hk6 : ∀ (res : (Int32) × ag_H) (y1 : Int32) (y2 : Int32) (y3 : Int32) (hh : ag_H), k6 y1 y2 y3 hh = some res → fr_H b h0 hh → fr_H b h0 res.2) (hk25 : ∀ (res : (Int32) × ag_H) (y1 : Int32) (y2 : Int32) (y3 : Int32) (y4 : Option Nat) (y5 : Int32) (hh : ag_H), k25 y1 y2 y3 y4 y5 hh = some res → fr_H b h0 hh → fr_ok b y4 → fr_H b h0 res.2) {x1 : Int32} {x2 : Int32} {x3 : Int32} {x4 : Option Nat} {x5 : Int32} {h : ag_H} {res : (Int32) × ag_H} (hyp : fn_Jg_lookAtChecks_142 N C a k6 k25 x1 x2 x3 x4 x5 h = some res) (hF : fr_H b h0 h) (hx4 : fr_ok b x4) : fr_H b h0 res.2 := by
  unfold fn_Jg_lookAtChecks_142 at hyp
  exact hk25 _ _ _ _ _ _ _ hyp hF (hx4)
theorem a_Jg_lookAtChecks_139 {b N : Nat} {C : Nat × Nat} {h0 : ag_H} {a : Nat} (ha : fr_ok b (some a)) {k6 : Int32 → Int32 → Int32 → ag_H → Option ((Int32) × ag_H)} {k25 : Int32 → Int32 → Int32 → Option Nat → Int32 → ag_H → Option ((Int32) × ag_H)} (hk6 : ∀ (res : (Int32) × ag_H) (y1 : Int32) (y2 : Int32) (y3 : Int32) (hh : ag_H), k6 y1 y2 y3 hh = some res → fr_H b h0 hh → fr_H b h0 res.2) (hk25 : ∀ (res : (Int32) × ag_H) (y1 : Int32) (y2 : Int32) (y3 : Int32) (y4 : Option Nat) (y5 : Int32) (hh : ag_H), k25 y1 y2 y3 y4 y5 hh = some res → fr_H b h0 hh → fr_ok b y4 → fr_H b h0 res.2) {x1 : Int32} {x2 : Int32} {x3 : Int32} {x4 : Option Nat} {x5 : Int32} {h : ag_H} {res : (Int32) × ag_H} (hyp : fn_Jg_lookAtChecks_139 N C a k6 k25 x1 x2 x3 x4 x5 h = some res) (hF : fr_H b h0 h) (hx4 : fr_ok b x4) : fr_H b h0 res.2 := by
  unfold fn_Jg_lookAtChecks_139 at hyp
  exact a_Jg_lookAtChecks_142 ha hk6 hk25 hyp hF (hx4)
theorem a_Jg_lookAtChecks_114 {b N : Nat} {C : Nat × Nat} {h0 : ag_H} {a : Nat} (ha : fr_ok b (some a)) {k6 : Int32 → Int32 → Int32 → ag_H → Option ((Int32) × ag_H)} {k25 : Int32 → Int32 → Int32 → Option Nat → Int32 → ag_H → Option ((Int32) × ag_H)} (hk6 : ∀ (res : (Int32) × ag_H) (y1 : Int32) (y2 : Int32) (y3 : Int32) (hh : ag_H), k6 y1 y2 y3 hh = some res → fr_H b h0 hh → fr_H b h0 res.2) (hk25 : ∀ (res : (Int32) × ag_H) (y1 : Int32) (y2 : Int32) (y3 : Int32) (y4 : Option Nat) (y5 : Int32) (hh : ag_H), k25 y1 y2 y3 y4 y5 hh = some res → fr_H b h0 hh → fr_ok b y4 → fr_H b h0 res.2) {x1 : Int32} {x2 : Int32} {x3 : Int32} {x4 : Option Nat} {x5 : Int32} {s0 : Int32} {h : ag_H} {res : (Int32) × ag_H} (hyp : fn_Jg_lookAtChecks_114 N C a k6 k25 x1 x2 x3 x4 x5 s0 h = some res) (hF : fr_H b h0 h) (hx4 : fr_ok b x4) : fr_H b h0 res.2 := by
  unfold fn_Jg_lookAtChecks_114 at hyp
  rcases fr_if hyp with ⟨q, hyp⟩ | ⟨q, hyp⟩
  · rcases fr_if hyp with ⟨q, hyp⟩ | ⟨q, hyp⟩
    · exact a_Jg_lookAtChecks_139 ha hk6 hk25 hyp hF (hx4)
    · obtain ⟨g9, eg9, hyp⟩ := md_bd hyp
      obtain ⟨h14, eh14, hyp⟩ := md_bd hyp
      have hF14 : fr_H b h0 h14 := fr_pf hF (ha) fr_vi eh14
      exact a_Jg_lookAtChecks_139 ha hk6 hk25 hyp hF14 (hx4)
  · exact a_Jg_lookAtChecks_139 ha hk6 hk25 hyp hF (hx4)
theorem a_Jg_lookAtChecks_113 {b N : Nat} {C : Nat × Nat} {h0 : ag_H} {a : Nat} (ha : fr_ok b (some a)) {k6 : Int32 → Int32 → Int32 → ag_H → Option ((Int32) × ag_H)} {k25 : Int32 → Int32 → Int32 → Option Nat → Int32 → ag_H → Option ((Int32) × ag_H)} (hk6 : ∀ (res : (Int32) × ag_H) (y1 : Int32) (y2 : Int32) (y3 : Int32) (hh : ag_H), k6 y1 y2 y3 hh = some res → fr_H b h0 hh → fr_H b h0 res.2) (hk25 : ∀ (res : (Int32) × ag_H) (y1 : Int32) (y2 : Int32) (y3 : Int32) (y4 : Option Nat) (y5 : Int32) (hh : ag_H), k25 y1 y2 y3 y4 y5 hh = some res → fr_H b h0 hh → fr_ok b y4 → fr_H b h0 res.2) {x1 : Int32} {x2 : Int32} {x3 : Int32} {x4 : Option Nat} {x5 : Int32} {h : ag_H} {res : (Int32) × ag_H} (hyp : fn_Jg_lookAtChecks_113 N C a k6 k25 x1 x2 x3 x4 x5 h = some res) (hF : fr_H b h0 h) (hx4 : fr_ok b x4) : fr_H b h0 res.2 := by
  unfold fn_Jg_lookAtChecks_113 at hyp
  exact a_Jg_lookAtChecks_114 ha hk6 hk25 hyp hF (hx4)
theorem a_Jg_lookAtChecks_109 {b N : Nat} {C : Nat × Nat} {h0 : ag_H} {a : Nat} (ha : fr_ok b (some a)) {k6 : Int32 → Int32 → Int32 → ag_H → Option ((Int32) × ag_H)} {k25 : Int32 → Int32 → Int32 → Option Nat → Int32 → ag_H → Option ((Int32) × ag_H)} (hk6 : ∀ (res : (Int32) × ag_H) (y1 : Int32) (y2 : Int32) (y3 : Int32) (hh : ag_H), k6 y1 y2 y3 hh = some res → fr_H b h0 hh → fr_H b h0 res.2) (hk25 : ∀ (res : (Int32) × ag_H) (y1 : Int32) (y2 : Int32) (y3 : Int32) (y4 : Option Nat) (y5 : Int32) (hh : ag_H), k25 y1 y2 y3 y4 y5 hh = some res → fr_H b h0 hh → fr_ok b y4 → fr_H b h0 res.2) {x1 : Int32} {x2 : Int32} {x3 : Int32} {x4 : Option Nat} {x5 : Int32} {h : ag_H} {res : (Int32) × ag_H} (hyp : fn_Jg_lookAtChecks_109 N C a k6 k25 x1 x2 x3 x4 x5 h = some res) (hF : fr_H b h0 h) (hx4 : fr_ok b x4) : fr_H b h0 res.2 := by
  unfold fn_Jg_lookAtChecks_109 at hyp
  exact a_Jg_lookAtChecks_114 ha hk6 hk25 hyp hF (hx4)
theorem a_Jg_lookAtChecks_72 {b N : Nat} {C : Nat × Nat} {h0 : ag_H} {a : Nat} (ha : fr_ok b (some a)) {k6 : Int32 → Int32 → Int32 → ag_H → Option ((Int32) × ag_H)} {k25 : Int32 → Int32 → Int32 → Option Nat → Int32 → ag_H → Option ((Int32) × ag_H)} (hk6 : ∀ (res : (Int32) × ag_H) (y1 : Int32) (y2 : Int32) (y3 : Int32) (hh : ag_H), k6 y1 y2 y3 hh = some res → fr_H b h0 hh → fr_H b h0 res.2) (hk25 : ∀ (res : (Int32) × ag_H) (y1 : Int32) (y2 : Int32) (y3 : Int32) (y4 : Option Nat) (y5 : Int32) (hh : ag_H), k25 y1 y2 y3 y4 y5 hh = some res → fr_H b h0 hh → fr_ok b y4 → fr_H b h0 res.2) {x1 : Int32} {x2 : Int32} {x3 : Int32} {x4 : Option Nat} {x5 : Int32} {x6 : Option Nat} {h : ag_H} {res : (Int32) × ag_H} (hyp : fn_Jg_lookAtChecks_72 N C a k6 k25 x1 x2 x3 x4 x5 x6 h = some res) (hF : fr_H b h0 h) (hx4 : fr_ok b x4) (hx6 : fr_ok b x6) : fr_H b h0 res.2 := by
  unfold fn_Jg_lookAtChecks_72 at hyp
  obtain ⟨a4, ea4, hyp⟩ := md_bd hyp
  obtain ⟨r4, er4, hyp⟩ := md_bd hyp
  have f4 := a_Jg_search er4 hF (fr_rc (ha) ea4) (hx6)
  obtain ⟨g7, eg7, hyp⟩ := md_bd hyp
  obtain ⟨g11, eg11, hyp⟩ := md_bd hyp
  rcases fr_if hyp with ⟨q, hyp⟩ | ⟨q, hyp⟩
  · exact a_Jg_lookAtChecks_113 ha hk6 hk25 hyp f4 (hx4)
  · obtain ⟨g14, eg14, hyp⟩ := md_bd hyp
    rcases fr_if hyp with ⟨q, hyp⟩ | ⟨q, hyp⟩
    · exact a_Jg_lookAtChecks_109 ha hk6 hk25 hyp f4 (hx4)
    · obtain ⟨g18, eg18, hyp⟩ := md_bd hyp
      rcases fr_if hyp with ⟨q, hyp⟩ | ⟨q, hyp⟩
      · exact a_Jg_lookAtChecks_109 ha hk6 hk25 hyp f4 (hx4)
      · exact a_Jg_lookAtChecks_113 ha hk6 hk25 hyp f4 (hx4)
theorem a_Jg_lookAtChecks_25 {b N : Nat} {C : Nat × Nat} {h0 : ag_H} {a : Nat} (ha : fr_ok b (some a)) {k6 : Int32 → Int32 → Int32 → ag_H → Option ((Int32) × ag_H)} (hk6 : ∀ (res : (Int32) × ag_H) (y1 : Int32) (y2 : Int32) (y3 : Int32) (hh : ag_H), k6 y1 y2 y3 hh = some res → fr_H b h0 hh → fr_H b h0 res.2) : ∀ (n : Nat) (res : (Int32) × ag_H) (x1 : Int32) (x2 : Int32) (x3 : Int32) (x4 : Option Nat) (x5 : Int32) (h : ag_H) , fn_Jg_lookAtChecks_25 N C a k6 n x1 x2 x3 x4 x5 h = some res → fr_H b h0 h → fr_ok b x4 → fr_H b h0 res.2 := by
  intro n
  induction n with
  | zero =>
    intro res x1 x2 x3 x4 x5 h hyp
    cases hyp
  | succ n ih =>
    intro res x1 x2 x3 x4 x5 h hyp hF hx4
    rw [fe_Jg_lookAtChecks_25] at hyp
    obtain ⟨a3, ea3, hyp⟩ := md_bd hyp
    obtain ⟨r3, er3, hyp⟩ := md_bd hyp
    have f3 := a_AL_size er3 hF (fr_rc (hx4) ea3) 
    rcases fr_if hyp with ⟨q, hyp⟩ | ⟨q, hyp⟩
    · exact hk6 _ _ _ _ _ hyp f3
    · obtain ⟨a9, ea9, hyp⟩ := md_bd hyp
      obtain ⟨r9, er9, hyp⟩ := md_bd hyp
      have f9 := a_AL_get er9 f3 (fr_rc (hx4) ea9) 
      obtain ⟨q10, hyp⟩ := md_ifs hyp
      obtain ⟨g13, eg13, hyp⟩ := md_bd hyp
      rcases fr_if hyp with ⟨q, hyp⟩ | ⟨q, hyp⟩
      · exact a_Jg_lookAtChecks_72 ha hk6 ih hyp f9.1 (hx4) (f9.2)
      · obtain ⟨g17, eg17, hyp⟩ := md_bd hyp
        rcases fr_if hyp with ⟨q, hyp⟩ | ⟨q, hyp⟩
        · exact a_Jg_lookAtChecks_72 ha hk6 ih hyp f9.1 (hx4) (f9.2)
        · exact a_Jg_lookAtChecks_142 ha hk6 ih hyp f9.1 (hx4)
theorem a_Jg_lookAtChecks_6 {b N : Nat} {C : Nat × Nat} {h0 : ag_H} {a : Nat} (ha : fr_ok b (some a)) : ∀ (n : Nat) (res : (Int32) × ag_H) (x1 : Int32) (x2 : Int32) (x3 : Int32) (h : ag_H) , fn_Jg_lookAtChecks_6 N C a n x1 x2 x3 h = some res → fr_H b h0 h → fr_H b h0 res.2 := by
  intro n
  induction n with
  | zero =>
    intro res x1 x2 x3 h hyp
    cases hyp
  | succ n ih =>
    intro res x1 x2 x3 h hyp hF 
    rw [fe_Jg_lookAtChecks_6] at hyp
    rcases fr_if hyp with ⟨q, hyp⟩ | ⟨q, hyp⟩
    · obtain ⟨q5, hyp⟩ := md_ifs hyp
      cases hyp
      exact hF
    · obtain ⟨g7, eg7, hyp⟩ := md_bd hyp
      obtain ⟨p9, ep9, hyp⟩ := md_bd hyp
      obtain ⟨q9, hyp⟩ := md_ifs hyp
      obtain ⟨g10, eg10, hyp⟩ := md_bd hyp
      exact a_Jg_lookAtChecks_25 ha ih N _ _ _ _ _ _ _ hyp hF (fr_gr hF (fr_ao hF (fr_gr hF (ha) eg7) ep9 _) eg10)
theorem a_Jg_lookAtChecks_0 {b N : Nat} {C : Nat × Nat} {h0 : ag_H} {a : Nat} (ha : fr_ok b (some a)) {h : ag_H} {res : (Int32) × ag_H} (hyp : fn_Jg_lookAtChecks_0 N C a h = some res) (hF : fr_H b h0 h) : fr_H b h0 res.2 := by
  unfold fn_Jg_lookAtChecks_0 at hyp
  exact a_Jg_lookAtChecks_6 ha N _ _ _ _ _ hyp hF 
theorem a_Jg_lookAtChecks {b N : Nat} {C : Nat × Nat} {h0 : ag_H} {a : Nat} {h : ag_H} {res : (Int32) × ag_H} (hyp : fn_Jg_lookAtChecks N C a h = some res) (hF : fr_H b h0 h) (ha : fr_ok b (some a)) : fr_H b h0 res.2 := a_Jg_lookAtChecks_0 ha hyp hF 
theorem a_Jg_lookAtPolicies_100 {b N : Nat} {C : Nat × Nat} {h0 : ag_H} {a : Nat} (ha : fr_ok b (some a)) {k14 : Option Nat → Int32 → Int32 → ag_H → Option ((Int32) × ag_H)} (hk14 : ∀ (res : (Int32) × ag_H) (y1 : Option Nat) (y2 : Int32) (y3 : Int32) (hh : ag_H), k14 y1 y2 y3 hh = some res → fr_H b h0 hh → fr_ok b y1 → fr_H b h0 res.2) {x1 : Option Nat} {x2 : Int32} {x3 : Int32} {h : ag_H} {res : (Int32) × ag_H} (hyp : fn_Jg_lookAtPolicies_100 N C a k14 x1 x2 x3 h = some res) (hF : fr_H b h0 h) (hx1 : fr_ok b x1) : fr_H b h0 res.2 := by
  unfold fn_Jg_lookAtPolicies_100 at hyp
  exact hk14 _ _ _ _ _ hyp hF (hx1)
theorem a_Jg_lookAtPolicies_96 {b N : Nat} {C : Nat × Nat} {h0 : ag_H} {a : Nat} (ha : fr_ok b (some a)) {s0 : Int32} {h : ag_H} {res : (Int32) × ag_H} (hyp : fn_Jg_lookAtPolicies_96 N C a s0 h = some res) (hF : fr_H b h0 h) : fr_H b h0 res.2 := by
  unfold fn_Jg_lookAtPolicies_96 at hyp
  cases hyp
  exact hF
theorem a_Jg_lookAtPolicies_57 {b N : Nat} {C : Nat × Nat} {h0 : ag_H} {a : Nat} (ha : fr_ok b (some a)) {k14 : Option Nat → Int32 → Int32 → ag_H → Option ((Int32) × ag_H)} (hk14 : ∀ (res : (Int32) × ag_H) (y1 : Option Nat) (y2 : Int32) (y3 : Int32) (hh : ag_H), k14 y1 y2 y3 hh = some res → fr_H b h0 hh → fr_ok b y1 → fr_H b h0 res.2) {x1 : Option Nat} {x2 : Int32} {x3 : Int32} {x4 : Option Nat} {h : ag_H} {res : (Int32) × ag_H} (hyp : fn_Jg_lookAtPolicies_57 N C a k14 x1 x2 x3 x4 h = some res) (hF : fr_H b h0 h) (hx1 : fr_ok b x1) (hx4 : fr_ok b x4) : fr_H b h0 res.2 := by
  unfold fn_Jg_lookAtPolicies_57 at hyp
  obtain ⟨a4, ea4, hyp⟩ := md_bd hyp
  obtain ⟨r4, er4, hyp⟩ := md_bd hyp
  have f4 := a_Jg_search er4 hF (fr_rc (ha) ea4) (hx4)
  obtain ⟨g6, eg6, hyp⟩ := md_bd hyp
  rcases fr_if hyp with ⟨q, hyp⟩ | ⟨q, hyp⟩
  · obtain ⟨g9, eg9, hyp⟩ := md_bd hyp
    rcases fr_if hyp with ⟨q, hyp⟩ | ⟨q, hyp⟩
    · exact a_Jg_lookAtPolicies_100 ha hk14 hyp f4 (hx1)
    · obtain ⟨g13, eg13, hyp⟩ := md_bd hyp
      rcases fr_if hyp with ⟨q, hyp⟩ | ⟨q, hyp⟩
      · exact a_Jg_lookAtPolicies_96 ha hyp f4
      · exact a_Jg_lookAtPolicies_96 ha hyp f4
  · cases hyp
    exact f4
theorem a_Jg_lookAtPolicies_14 {b N : Nat} {C : Nat × Nat} {h0 : ag_H} {a : Nat} (ha : fr_ok b (some a)) : ∀ (n : Nat) (res : (Int32) × ag_H) (x1 : Option Nat) (x2 : Int32) (x3 : Int32) (h : ag_H) , fn_Jg_lookAtPolicies_14 N C a n x1 x2 x3 h = some res → fr_H b h0 h → fr_ok b x1 → fr_H b h0 res.2 := by
  intro n
  induction n with
  | zero =>
    intro res x1 x2 x3 h hyp
    cases hyp
  | succ n ih =>
    intro res x1 x2 x3 h hyp hF hx1
    rw [fe_Jg_lookAtPolicies_14] at hyp
    obtain ⟨a3, ea3, hyp⟩ := md_bd hyp
    obtain ⟨r3, er3, hyp⟩ := md_bd hyp
    have f3 := a_AL_size er3 hF (fr_rc (hx1) ea3) 
    rcases fr_if hyp with ⟨q, hyp⟩ | ⟨q, hyp⟩
    · cases hyp
      exact f3
    · obtain ⟨a9, ea9, hyp⟩ := md_bd hyp
      obtain ⟨r9, er9, hyp⟩ := md_bd hyp
      have f9 := a_AL_get er9 f3 (fr_rc (hx1) ea9) 
      obtain ⟨q10, hyp⟩ := md_ifs hyp
      obtain ⟨g13, eg13, hyp⟩ := md_bd hyp
      rcases fr_if hyp with ⟨q, hyp⟩ | ⟨q, hyp⟩
      · exact a_Jg_lookAtPolicies_57 ha ih hyp f9.1 (hx1) (f9.2)
      · obtain ⟨g17, eg17, hyp⟩ := md_bd hyp
        rcases fr_if hyp with ⟨q, hyp⟩ | ⟨q, hyp⟩
        · exact a_Jg_lookAtPolicies_57 ha ih hyp f9.1 (hx1) (f9.2)
        · exact a_Jg_lookAtPolicies_100 ha ih hyp f9.1 (hx1)
theorem a_Jg_lookAtPolicies_0 {b N : Nat} {C : Nat × Nat} {h0 : ag_H} {a : Nat} (ha : fr_ok b (some a)) {h : ag_H} {res : (Int32) × ag_H} (hyp : fn_Jg_lookAtPolicies_0 N C a h = some res) (hF : fr_H b h0 h) : fr_H b h0 res.2 := by
  unfold fn_Jg_lookAtPolicies_0 at hyp
  obtain ⟨g2, eg2, hyp⟩ := md_bd hyp
  obtain ⟨p4, ep4, hyp⟩ := md_bd hyp
  obtain ⟨q4, hyp⟩ := md_ifs hyp
  obtain ⟨g5, eg5, hyp⟩ := md_bd hyp
  exact a_Jg_lookAtPolicies_14 ha N _ _ _ _ _ hyp hF (fr_gr hF (fr_ao hF (fr_gr hF (ha) eg2) ep4 _) eg5)
theorem a_Jg_lookAtPolicies {b N : Nat} {C : Nat × Nat} {h0 : ag_H} {a : Nat} {h : ag_H} {res : (Int32) × ag_H} (hyp : fn_Jg_lookAtPolicies N C a h = some res) (hF : fr_H b h0 h) (ha : fr_ok b (some a)) : fr_H b h0 res.2 := a_Jg_lookAtPolicies_0 ha hyp hF 
theorem a_Jg_verdict_27 {b N : Nat} {C : Nat × Nat} {h0 : ag_H} {a : Nat} (ha : fr_ok b (some a)) {h : ag_H} {res : (Int32) × ag_H} (hyp : fn_Jg_verdict_27 N C a h = some res) (hF : fr_H b h0 h) : fr_H b h0 res.2 := by
  unfold fn_Jg_verdict_27 at hyp
  cases hyp
  exact hF
theorem a_Jg_verdict_43 {b N : Nat} {C : Nat × Nat} {h0 : ag_H} {a : Nat} (ha : fr_ok b (some a)) {s0 : Int32} {h : ag_H} {res : (Int32) × ag_H} (hyp : fn_Jg_verdict_43 N C a s0 h = some res) (hF : fr_H b h0 h) : fr_H b h0 res.2 := by
  unfold fn_Jg_verdict_43 at hyp
  cases hyp
  exact hF
theorem a_Jg_verdict_0 {b N : Nat} {C : Nat × Nat} {h0 : ag_H} {a : Nat} (ha : fr_ok b (some a)) {h : ag_H} {res : (Int32) × ag_H} (hyp : fn_Jg_verdict_0 N C a h = some res) (hF : fr_H b h0 h) : fr_H b h0 res.2 := by
  unfold fn_Jg_verdict_0 at hyp
  obtain ⟨g2, eg2, hyp⟩ := md_bd hyp
  obtain ⟨a6, ea6, hyp⟩ := md_bd hyp
  obtain ⟨r6, er6, hyp⟩ := md_bd hyp
  have f6 := a_Jg_lookAtChecks er6 hF (fr_rc (ha) ea6) 
  obtain ⟨a10, ea10, hyp⟩ := md_bd hyp
  obtain ⟨r10, er10, hyp⟩ := md_bd hyp
  have f10 := a_Jg_lookAtPolicies er10 f6 (fr_rc (ha) ea10) 
  rcases fr_if hyp with ⟨q, hyp⟩ | ⟨q, hyp⟩
  · rcases fr_if hyp with ⟨q, hyp⟩ | ⟨q, hyp⟩
    · exact a_Jg_verdict_27 ha hyp f10
    · obtain ⟨g18, eg18, hyp⟩ := md_bd hyp
      rcases fr_if hyp with ⟨q, hyp⟩ | ⟨q, hyp⟩
      · exact a_Jg_verdict_43 ha hyp f10
      · exact a_Jg_verdict_43 ha hyp f10
  · exact a_Jg_verdict_27 ha hyp f10
theorem a_Jg_verdict {b N : Nat} {C : Nat × Nat} {h0 : ag_H} {a : Nat} {h : ag_H} {res : (Int32) × ag_H} (hyp : fn_Jg_verdict N C a h = some res) (hF : fr_H b h0 h) (ha : fr_ok b (some a)) : fr_H b h0 res.2 := a_Jg_verdict_0 ha hyp hF 
