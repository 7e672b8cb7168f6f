/-! frame: Jg_lookAtChecks, Jg_lookAtPolicies, Jg_verdict, GC_authorize, GC_fact, Tk_tell, Lk_tell, GC_token -/
theorem a_Jg_lookAtChecks_142 {b N : Nat} {C : Nat × Nat} {h0 : ag_H} {a : Nat} (ha : fr_ok b (some a)) {k6 : Int32 → Int32 → Int32 → ag_H → Option ((Int32) × ag_H)} {k25 : Int32 → Int32 → Int32 → Option Nat → Int32 → ag_H → Option ((Int32) × ag_H)} (hk6 : ∀ (res : (Int32) × ag_H) (y1 : Int32) (y2 : Int32) (y3 : Int32) (hh : ag_H), k6 y1 y2 y3 hh = some res → fr_H b h0 hh → fr_H b h0 res.2) (hk25 : ∀ (res : (Int32) × ag_H) (y1 : Int32) (y2 : Int32) (y3 : Int32) (y4 : Option Nat) (y5 : Int32) (hh : ag_H), k25 y1 y2 y3 y4 y5 hh = some res → fr_H b h0 hh → fr_ok b y4 → fr_H b h0 res.2) {x1 : Int32} {x2 : Int32} {x3 : Int32} {x4 : Option Nat} {x5 : Int32} {h : ag_H} {res : (Int32) × ag_H} (hyp : fn_Jg_lookAtChecks_142 N C a k6 k25 x1 x2 x3 x4 x5 h = some res) (hF : fr_H b h0 h) (hx4 : fr_ok b x4) : fr_H b h0 res.2 := by
  unfold fn_Jg_lookAtChecks_142 at hyp
  exact hk25 _ _ _ _ _ _ _ hyp hF (hx4)
theorem a_Jg_lookAtChecks_139 {b N : Nat} {C : Nat × Nat} {h0 : ag_H} {a : Nat} (ha : fr_ok b (some a)) {k6 : Int32 → Int32 → Int32 → ag_H → Option ((Int32) × ag_H)} {k25 : Int32 → Int32 → Int32 → Option Nat → Int32 → ag_H → Option ((Int32) × ag_H)} (hk6 : ∀ (res : (Int32) × ag_H) (y1 : Int32) (y2 : Int32) (y3 : Int32) (hh : ag_H), k6 y1 y2 y3 hh = some res → fr_H b h0 hh → fr_H b h0 res.2) (hk25 : ∀ (res : (Int32) × ag_H) (y1 : Int32) (y2 : Int32) (y3 : Int32) (y4 : Option Nat) (y5 : Int32) (hh : ag_H), k25 y1 y2 y3 y4 y5 hh = some res → fr_H b h0 hh → fr_ok b y4 → fr_H b h0 res.2) {x1 : Int32} {x2 : Int32} {x3 : Int32} {x4 : Option Nat} {x5 : Int32} {h : ag_H} {res : (Int32) × ag_H} (hyp : fn_Jg_lookAtChecks_139 N C a k6 k25 x1 x2 x3 x4 x5 h = some res) (hF : fr_H b h0 h) (hx4 : fr_ok b x4) : fr_H b h0 res.2 := by
  unfold fn_Jg_lookAtChecks_139 at hyp
  exact a_Jg_lookAtChecks_142 ha hk6 hk25 hyp hF (hx4)
theorem a_Jg_lookAtChecks_114 {b N : Nat} {C : Nat × Nat} {h0 : ag_H} {a : Nat} (ha : fr_ok b (some a)) {k6 : Int32 → Int32 → Int32 → ag_H → Option ((Int32) × ag_H)} {k25 : Int32 → Int32 → Int32 → Option Nat → Int32 → ag_H → Option ((Int32) × ag_H)} (hk6 : ∀ (res : (Int32) × ag_H) (y1 : Int32) (y2 : Int32) (y3 : Int32) (hh : ag_H), k6 y1 y2 y3 hh = some res → fr_H b h0 hh → fr_H b h0 res.2) (hk25 : ∀ (res : (Int32) × ag_H) (y1 : Int32) (y2 : Int32) (y3 : Int32) (y4 : Option Nat) (y5 : Int32) (hh : ag_H), k25 y1 y2 y3 y4 y5 hh = some res → fr_H b h0 hh → fr_ok b y4 → fr_H b h0 res.2) {x1 : Int32} {x2 : Int32} {x3 : Int32} {x4 : Option Nat} {x5 : Int32} {s0 : Int32} {h : ag_H} {res : (Int32) × ag_H} (hyp : fn_Jg_lookAtChecks_114 N C a k6 k25 x1 x2 x3 x4 x5 s0 h = some res) (hF : fr_H b h0 h) (hx4 : fr_ok b x4) : fr_H b h0 res.2 := by
  unfold fn_Jg_lookAtChecks_114 at hyp
  rcases fr_if hyp with ⟨q, hyp⟩ | ⟨q, hyp⟩
  · rcases fr_if hyp with ⟨q, hyp⟩ | ⟨q, hyp⟩
    · exact a_Jg_lookAtChecks_139 ha hk6 hk25 hyp hF (hx4)
    · obtain ⟨g9, eg9, hyp⟩ := md_bd hyp
      obtain ⟨h14, eh14, hyp⟩ := md_bd hyp
      have hF14 : fr_H b h0 h14 := fr_pf hF (ha) fr_vi eh14
      exact a_Jg_lookAtChecks_139 ha hk6 hk25 hyp hF14 (hx4)
  · exact a_Jg_lookAtChecks_139 ha hk6 hk25 hyp hF (hx4)
theorem a_Jg_lookAtChecks_113 {b N : Nat} {C : Nat × Nat} {h0 : ag_H} {a : Nat} (ha : fr_ok b (some a)) {k6 : Int32 → Int32 → Int32 → ag_H → Option ((Int32) × ag_H)} {k25 : Int32 → Int32 → Int32 → Option Nat → Int32 → ag_H → Option ((Int32) × ag_H)} (hk6 : ∀ (res : (Int32) × ag_H) (y1 : Int32) (y2 : Int32) (y3 : Int32) (hh : ag_H), k6 y1 y2 y3 hh = some res → fr_H b h0 hh → fr_H b h0 res.2) (hk25 : ∀ (res : (Int32) × ag_H) (y1 : Int32) (y2 : Int32) (y3 : Int32) (y4 : Option Nat) (y5 : Int32) (hh : ag_H), k25 y1 y2 y3 y4 y5 hh = some res → fr_H b h0 hh → fr_ok b y4 → fr_H b h0 res.2) {x1 : Int32} {x2 : Int32} {x3 : Int32} {x4 : Option Nat} {x5 : Int32} {h : ag_H} {res : (Int32) × ag_H} (hyp : fn_Jg_lookAtChecks_113 N C a k6 k25 x1 x2 x3 x4 x5 h = some res) (hF : fr_H b h0 h) (hx4 : fr_ok b x4) : fr_H b h0 res.2 := by
  unfold fn_Jg_lookAtChecks_113 at hyp
  exact a_Jg_lookAtChecks_114 ha hk6 hk25 hyp hF (hx4)
theorem a_Jg_lookAtChecks_109 {b N : Nat} {C : Nat × Nat} {h0 : ag_H} {a : Nat} (ha : fr_ok b (some a)) {k6 : Int32 → Int32 → Int32 → ag_H → Option ((Int32) × ag_H)} {k25 : Int32 → Int32 → Int32 → Option Nat → Int32 → ag_H → Option ((Int32) × ag_H)} (hk6 : ∀ (res : (Int32) × ag_H) (y1 : Int32) (y2 : Int32) (y3 : Int32) (hh : ag_H), k6 y1 y2 y3 hh = some res → fr_H b h0 hh → fr_H b h0 res.2) (hk25 : ∀ (res : (Int32) × ag_H) (y1 : Int32) (y2 : Int32) (y3 : Int32) (y4 : Option Nat) (y5 : Int32) (hh : ag_H), k25 y1 y2 y3 y4 y5 hh = some res → fr_H b h0 hh → fr_ok b y4 → fr_H b h0 res.2) {x1 : Int32} {x2 : Int32} {x3 : Int32} {x4 : Option Nat} {x5 : Int32} {h : ag_H} {res : (Int32) × ag_H} (hyp : fn_Jg_lookAtChecks_109 N C a k6 k25 x1 x2 x3 x4 x5 h = some res) (hF : fr_H b h0 h) (hx4 : fr_ok b x4) : fr_H b h0 res.2 := by
  unfold fn_Jg_lookAtChecks_109 at hyp
  exact a_Jg_lookAtChecks_114 ha hk6 hk25 hyp hF (hx4)
theorem a_Jg_lookAtChecks_72 {b N : Nat} {C : Nat × Nat} {h0 : ag_H} {a : Nat} (ha : fr_ok b (some a)) {k6 : Int32 → Int32 → Int32 → ag_H → Option ((Int32) × ag_H)} {k25 : Int32 → Int32 → Int32 → Option Nat → Int32 → ag_H → Option ((Int32) × ag_H)} (hk6 : ∀ (res : (Int32) × ag_H) (y1 : Int32) (y2 : Int32) (y3 : Int32) (hh : ag_H), k6 y1 y2 y3 hh = some res → fr_H b h0 hh → fr_H b h0 res.2) (hk25 : ∀ (res : (Int32) × ag_H) (y1 : Int32) (y2 : Int32) (y3 : Int32) (y4 : Option Nat) (y5 : Int32) (hh : ag_H), k25 y1 y2 y3 y4 y5 hh = some res → fr_H b h0 hh → fr_ok b y4 → fr_H b h0 res.2) {x1 : Int32} {x2 : Int32} {x3 : Int32} {x4 : Option Nat} {x5 : Int32} {x6 : Option Nat} {h : ag_H} {res : (Int32) × ag_H} (hyp : fn_Jg_lookAtChecks_72 N C a k6 k25 x1 x2 x3 x4 x5 x6 h = some res) (hF : fr_H b h0 h) (hx4 : fr_ok b x4) (hx6 : fr_ok b x6) : fr_H b h0 res.2 := by
  unfold fn_Jg_lookAtChecks_72 at hyp
  obtain ⟨a4, ea4, hyp⟩ := md_bd hyp
  obtain ⟨r4, er4, hyp⟩ := md_bd hyp
  have f4 := a_Jg_search er4 hF (fr_rc (ha) ea4) (hx6)
  obtain ⟨g7, eg7, hyp⟩ := md_bd hyp
  obtain ⟨g11, eg11, hyp⟩ := md_bd hyp
  rcases fr_if hyp with ⟨q, hyp⟩ | ⟨q, hyp⟩
  · exact a_Jg_lookAtChecks_113 ha hk6 hk25 hyp f4 (hx4)
  · obtain ⟨g14, eg14, hyp⟩ := md_bd hyp
    rcases fr_if hyp with ⟨q, hyp⟩ | ⟨q, hyp⟩
    · exact a_Jg_lookAtChecks_109 ha hk6 hk25 hyp f4 (hx4)
    · obtain ⟨g18, eg18, hyp⟩ := md_bd hyp
      rcases fr_if hyp with ⟨q, hyp⟩ | ⟨q, hyp⟩
      · exact a_Jg_lookAtChecks_109 ha hk6 hk25 hyp f4 (hx4)
      · exact a_Jg_lookAtChecks_113 ha hk6 hk25 hyp f4 (hx4)
theorem a_Jg_lookAtChecks_25 {b N : Nat} {C : Nat × Nat} {h0 : ag_H} {a : Nat} (ha : fr_ok b (some a)) {k6 : Int32 → Int32 → Int32 → ag_H → Option ((Int32) × ag_H)} (hk6 : ∀ (res : (Int32) × ag_H) (y1 : Int32) (y2 : Int32) (y3 : Int32) (hh : ag_H), k6 y1 y2 y3 hh = some res → fr_H b h0 hh → fr_H b h0 res.2) : ∀ (n : Nat) (res : (Int32) × ag_H) (x1 : Int32) (x2 : Int32) (x3 : Int32) (x4 : Option Nat) (x5 : Int32) (h : ag_H) , fn_Jg_lookAtChecks_25 N C a k6 n x1 x2 x3 x4 x5 h = some res → fr_H b h0 h → fr_ok b x4 → fr_H b h0 res.2 := by
  intro n
  induction n with
  | zero =>
    intro res x1 x2 x3 x4 x5 h hyp
    cases hyp
  | succ n ih =>
    intro res x1 x2 x3 x4 x5 h hyp hF hx4
    rw [fe_Jg_lookAtChecks_25] at hyp
    obtain ⟨a3, ea3, hyp⟩ := md_bd hyp
    obtain ⟨r3, er3, hyp⟩ := md_bd hyp
    have f3 := a_AL_size er3 hF (fr_rc (hx4) ea3) 
    rcases fr_if hyp with ⟨q, hyp⟩ | ⟨q, hyp⟩
    · exact hk6 _ _ _ _ _ hyp f3
    · obtain ⟨a9, ea9, hyp⟩ := md_bd hyp
      obtain ⟨r9, er9, hyp⟩ := md_bd hyp
      have f9 := a_AL_get er9 f3 (fr_rc (hx4) ea9) 
      obtain ⟨q10, hyp⟩ := md_ifs hyp
      obtain ⟨g13, eg13, hyp⟩ := md_bd hyp
      rcases fr_if hyp with ⟨q, hyp⟩ | ⟨q, hyp⟩
      · exact a_Jg_lookAtChecks_72 ha hk6 ih hyp f9.1 (hx4) (f9.2)
      · obtain ⟨g17, eg17, hyp⟩ := md_bd hyp
        rcases fr_if hyp with ⟨q, hyp⟩ | ⟨q, hyp⟩
        · exact a_Jg_lookAtChecks_72 ha hk6 ih hyp f9.1 (hx4) (f9.2)
        · exact a_Jg_lookAtChecks_142 ha hk6 ih hyp f9.1 (hx4)
theorem a_Jg_lookAtChecks_6 {b N : Nat} {C : Nat × Nat} {h0 : ag_H} {a : Nat} (ha : fr_ok b (some a)) : ∀ (n : Nat) (res : (Int32) × ag_H) (x1 : Int32) (x2 : Int32) (x3 : Int32) (h : ag_H) , fn_Jg_lookAtChecks_6 N C a n x1 x2 x3 h = some res → fr_H b h0 h → fr_H b h0 res.2 := by
  intro n
  induction n with
  | zero =>
    intro res x1 x2 x3 h hyp
    cases hyp
  | succ n ih =>
    intro res x1 x2 x3 h hyp hF 
    rw [fe_Jg_lookAtChecks_6] at hyp
    rcases fr_if hyp with ⟨q, hyp⟩ | ⟨q, hyp⟩
    · obtain ⟨q5, hyp⟩ := md_ifs hyp
      cases hyp
      exact hF
    · obtain ⟨g7, eg7, hyp⟩ := md_bd hyp
      obtain ⟨p9, ep9, hyp⟩ := md_bd hyp
      obtain ⟨q9, hyp⟩ := md_ifs hyp
      obtain ⟨g10, eg10, hyp⟩ := md_bd hyp
      exact a_Jg_lookAtChecks_25 ha ih N _ _ _ _ _ _ _ hyp hF (fr_gr hF (fr_ao hF (fr_gr hF (ha) eg7) ep9 _) eg10)
theorem a_Jg_lookAtChecks_0 {b N : Nat} {C : Nat × Nat} {h0 : ag_H} {a : Nat} (ha : fr_ok b (some a)) {h : ag_H} {res : (Int32) × ag_H} (hyp : fn_Jg_lookAtChecks_0 N C a h = some res) (hF : fr_H b h0 h) : fr_H b h0 res.2 := by
  unfold fn_Jg_lookAtChecks_0 at hyp
  exact a_Jg_lookAtChecks_6 ha N _ _ _ _ _ hyp hF 
theorem a_Jg_lookAtChecks {b N : Nat} {C : Nat × Nat} {h0 : ag_H} {a : Nat} {h : ag_H} {res : (Int32) × ag_H} (hyp : fn_Jg_lookAtChecks N C a h = some res) (hF : fr_H b h0 h) (ha : fr_ok b (some a)) : fr_H b h0 res.2 := a_Jg_lookAtChecks_0 ha hyp hF 
theorem a_Jg_lookAtPolicies_100 {b N : Nat} {C : Nat × Nat} {h0 : ag_H} {a : Nat} (ha : fr_ok b (some a)) {k14 : Option Nat → Int32 → Int32 → ag_H → Option ((Int32) × ag_H)} (hk14 : ∀ (res : (Int32) × ag_H) (y1 : Option Nat) (y2 : Int32) (y3 : Int32) (hh : ag_H), k14 y1 y2 y3 hh = some res → fr_H b h0 hh → fr_ok b y1 → fr_H b h0 res.2) {x1 : Option Nat} {x2 : Int32} {x3 : Int32} {h : ag_H} {res : (Int32) × ag_H} (hyp : fn_Jg_lookAtPolicies_100 N C a k14 x1 x2 x3 h = some res) (hF : fr_H b h0 h) (hx1 : fr_ok b x1) : fr_H b h0 res.2 := by
  unfold fn_Jg_lookAtPolicies_100 at hyp
  exact hk14 _ _ _ _ _ hyp hF (hx1)
theorem a_Jg_lookAtPolicies_96 {b N : Nat} {C : Nat × Nat} {h0 : ag_H} {a : Nat} (ha : fr_ok b (some a)) {s0 : Int32} {h : ag_H} {res : (Int32) × ag_H} (hyp : fn_Jg_lookAtPolicies_96 N C a s0 h = some res) (hF : fr_H b h0 h) : fr_H b h0 res.2 := by
  unfold fn_Jg_lookAtPolicies_96 at hyp
  cases hyp
  exact hF
theorem a_Jg_lookAtPolicies_57 {b N : Nat} {C : Nat × Nat} {h0 : ag_H} {a : Nat} (ha : fr_ok b (some a)) {k14 : Option Nat → Int32 → Int32 → ag_H → Option ((Int32) × ag_H)} (hk14 : ∀ (res : (Int32) × ag_H) (y1 : Option Nat) (y2 : Int32) (y3 : Int32) (hh : ag_H), k14 y1 y2 y3 hh = some res → fr_H b h0 hh → fr_ok b y1 → fr_H b h0 res.2) {x1 : Option Nat} {x2 : Int32} {x3 : Int32} {x4 : Option Nat} {h : ag_H} {res : (Int32) × ag_H} (hyp : fn_Jg_lookAtPolicies_57 N C a k14 x1 x2 x3 x4 h = some res) (hF : fr_H b h0 h) (hx1 : fr_ok b x1) (hx4 : fr_ok b x4) : fr_H b h0 res.2 := by
  unfold fn_Jg_lookAtPolicies_57 at hyp
  obtain ⟨a4, ea4, hyp⟩ := md_bd hyp
  obtain ⟨r4, er4, hyp⟩ := md_bd hyp
  have f4 := a_Jg_search er4 hF (fr_rc (ha) ea4) (hx4)
  obtain ⟨g6, eg6, hyp⟩ := md_bd hyp
  rcases fr_if hyp with ⟨q, hyp⟩ | ⟨q, hyp⟩
  · obtain ⟨g9, eg9, hyp⟩ := md_bd hyp
    rcases fr_if hyp with ⟨q, hyp⟩ | ⟨q, hyp⟩
    · exact a_Jg_lookAtPolicies_100 ha hk14 hyp f4 (hx1)
    · obtain ⟨g13, eg13, hyp⟩ := md_bd hyp
      rcases fr_if hyp with ⟨q, hyp⟩ | ⟨q, hyp⟩
      · exact a_Jg_lookAtPolicies_96 ha hyp f4
      · exact a_Jg_lookAtPolicies_96 ha hyp f4
  · cases hyp
    exact f4
theorem a_Jg_lookAtPolicies_14 {b N : Nat} {C : Nat × Nat} {h0 : ag_H} {a : Nat} (ha : fr_ok b (some a)) : ∀ (n : Nat) (res : (Int32) × ag_H) (x1 : Option Nat) (x2 : Int32) (x3 : Int32) (h : ag_H) , fn_Jg_lookAtPolicies_14 N C a n x1 x2 x3 h = some res → fr_H b h0 h → fr_ok b x1 → fr_H b h0 res.2 := by
  intro n
  induction n with
  | zero =>
    intro res x1 x2 x3 h hyp
    cases hyp
  | succ n ih =>
    intro res x1 x2 x3 h hyp hF hx1
    rw [fe_Jg_lookAtPolicies_14] at hyp
    obtain ⟨a3, ea3, hyp⟩ := md_bd hyp
    obtain ⟨r3, er3, hyp⟩ := md_bd hyp
    have f3 := a_AL_size er3 hF (fr_rc (hx1) ea3) 
    rcases fr_if hyp with ⟨q, hyp⟩ | ⟨q, hyp⟩
    · cases hyp
      exact f3
    · obtain ⟨a9, ea9, hyp⟩ := md_bd hyp
      obtain ⟨r9, er9, hyp⟩ := md_bd hyp
      have f9 := a_AL_get er9 f3 (fr_rc (hx1) ea9) 
      obtain ⟨q10, hyp⟩ := md_ifs hyp
      obtain ⟨g13, eg13, hyp⟩ := md_bd hyp
      rcases fr_if hyp with ⟨q, hyp⟩ | ⟨q, hyp⟩
      · exact a_Jg_lookAtPolicies_57 ha ih hyp f9.1 (hx1) (f9.2)
      · obtain ⟨g17, eg17, hyp⟩ := md_bd hyp
        rcases fr_if hyp with ⟨q, hyp⟩ | ⟨q, hyp⟩
        · exact a_Jg_lookAtPolicies_57 ha ih hyp f9.1 (hx1) (f9.2)
        · exact a_Jg_lookAtPolicies_100 ha ih hyp f9.1 (hx1)
theorem a_Jg_lookAtPolicies_0 {b N : Nat} {C : Nat × Nat} {h0 : ag_H} {a : Nat} (ha : fr_ok b (some a)) {h : ag_H} {res : (Int32) × ag_H} (hyp : fn_Jg_lookAtPolicies_0 N C a h = some res) (hF : fr_H b h0 h) : fr_H b h0 res.2 := by
  unfold fn_Jg_lookAtPolicies_0 at hyp
  obtain ⟨g2, eg2, hyp⟩ := md_bd hyp
  obtain ⟨p4, ep4, hyp⟩ := md_bd hyp
  obtain ⟨q4, hyp⟩ := md_ifs hyp
  obtain ⟨g5, eg5, hyp⟩ := md_bd hyp
  exact a_Jg_lookAtPolicies_14 ha N _ _ _ _ _ hyp hF (fr_gr hF (fr_ao hF (fr_gr hF (ha) eg2) ep4 _) eg5)
theorem a_Jg_lookAtPolicies {b N : Nat} {C : Nat × Nat} {h0 : ag_H} {a : Nat} {h : ag_H} {res : (Int32) × ag_H} (hyp : fn_Jg_lookAtPolicies N C a h = some res) (hF : fr_H b h0 h) (ha : fr_ok b (some a)) : fr_H b h0 res.2 := a_Jg_lookAtPolicies_0 ha hyp hF 
theorem a_Jg_verdict_27 {b N : Nat} {C : Nat × Nat} {h0 : ag_H} {a : Nat} (ha : fr_ok b (some a)) {h : ag_H} {res : (Int32) × ag_H} (hyp : fn_Jg_verdict_27 N C a h = some res) (hF : fr_H b h0 h) : fr_H b h0 res.2 := by
  unfold fn_Jg_verdict_27 at hyp
  cases hyp
  exact hF
theorem a_Jg_verdict_43 {b N : Nat} {C : Nat × Nat} {h0 : ag_H} {a : Nat} (ha : fr_ok b (some a)) {s0 : Int32} {h : ag_H} {res : (Int32) × ag_H} (hyp : fn_Jg_verdict_43 N C a s0 h = some res) (hF : fr_H b h0 h) : fr_H b h0 res.2 := by
  unfold fn_Jg_verdict_43 at hyp
  cases hyp
  exact hF
theorem a_Jg_verdict_0 {b N : Nat} {C : Nat × Nat} {h0 : ag_H} {a : Nat} (ha : fr_ok b (some a)) {h : ag_H} {res : (Int32) × ag_H} (hyp : fn_Jg_verdict_0 N C a h = some res) (hF : fr_H b h0 h) : fr_H b h0 res.2 := by
  unfold fn_Jg_verdict_0 at hyp
  obtain ⟨g2, eg2, hyp⟩ := md_bd hyp
  obtain ⟨a6, ea6, hyp⟩ := md_bd hyp
  obtain ⟨r6, er6, hyp⟩ := md_bd hyp
  have f6 := a_Jg_lookAtChecks er6 hF (fr_rc (ha) ea6) 
  obtain ⟨a10, ea10, hyp⟩ := md_bd hyp
  obtain ⟨r10, er10, hyp⟩ := md_bd hyp
  have f10 := a_Jg_lookAtPolicies er10 f6 (fr_rc (ha) ea10) 
  rcases fr_if hyp with ⟨q, hyp⟩ | ⟨q, hyp⟩
  · rcases fr_if hyp with ⟨q, hyp⟩ | ⟨q, hyp⟩
    · exact a_Jg_verdict_27 ha hyp f10
    · obtain ⟨g18, eg18, hyp⟩ := md_bd hyp
      rcases fr_if hyp with ⟨q, hyp⟩ | ⟨q, hyp⟩
      · exact a_Jg_verdict_43 ha hyp f10
      · exact a_Jg_verdict_43 ha hyp f10
  · exact a_Jg_verdict_27 ha hyp f10
theorem a_Jg_verdict {b N : Nat} {C : Nat × Nat} {h0 : ag_H} {a : Nat} {h : ag_H} {res : (Int32) × ag_H} (hyp : fn_Jg_verdict N C a h = some res) (hF : fr_H b h0 h) (ha : fr_ok b (some a)) : fr_H b h0 res.2 := a_Jg_verdict_0 ha hyp hF 
theorem a_GC_authorize_0 {b N : Nat} {C : Nat × Nat} {h0 : ag_H} {a : Nat} (ha : fr_ok b (some a)) {x1 : Int32} {x2 : Int32} {h : ag_H} {res : (Int32 ⊕ Nat) × ag_H} (hyp : fn_GC_authorize_0 N C a x1 x2 h = some res) (hF : fr_H b h0 h) : fr_H b h0 res.2 := by
  unfold fn_GC_authorize_0 at hyp
  obtain ⟨a3, ea3, hyp⟩ := md_bd hyp
  obtain ⟨r3, er3, hyp⟩ := md_bd hyp
  have f3 := a_GC_isToken er3 hF (fr_rc (ha) ea3) 
  rcases fr_if hyp with ⟨q, hyp⟩ | ⟨q, hyp⟩
  · obtain ⟨q50, hyp⟩ := md_ifs hyp
    cases hyp
    exact fr_nw f3 (fr_ob rfl)
  · obtain ⟨r6, er6, hyp⟩ := md_bd hyp
    have f6 := a_GC_isRoot er6 f3 
    rcases fr_if hyp with ⟨q, hyp⟩ | ⟨q, hyp⟩
    · obtain ⟨q49, hyp⟩ := md_ifs hyp
      cases hyp
      exact fr_nw f6 (fr_ob rfl)
    · obtain ⟨g9, eg9, hyp⟩ := md_bd hyp
      obtain ⟨a11, ea11, hyp⟩ := md_bd hyp
      obtain ⟨r11, er11, hyp⟩ := md_bd hyp
      have f11 := a_AL_get er11 f6 (fr_rc (fr_gr f6 (ha) eg9) ea11) 
      obtain ⟨q12, hyp⟩ := md_ifs hyp
      obtain ⟨g15, eg15, hyp⟩ := md_bd hyp
      obtain ⟨g17, eg17, hyp⟩ := md_bd hyp
      obtain ⟨a18, ea18, hyp⟩ := md_bd hyp
      obtain ⟨r18, er18, hyp⟩ := md_bd hyp
      have f18 := a_Jg_begin er18 f11.1 (fr_rc (fr_gr f11.1 (ha) eg15) ea18) 
      obtain ⟨a21, ea21, hyp⟩ := md_bd hyp
      obtain ⟨r21, er21, hyp⟩ := md_bd hyp
      have f21 := a_Tk_isRightFor er21 f18 (fr_rc (f11.2) ea21) 
      rcases fr_if hyp with ⟨q, hyp⟩ | ⟨q, hyp⟩
      · obtain ⟨g45, eg45, hyp⟩ := md_bd hyp
        obtain ⟨a47, ea47, hyp⟩ := md_bd hyp
        obtain ⟨r47, er47, hyp⟩ := md_bd hyp
        have f47 := a_Jg_end er47 f21 (fr_rc (fr_gr f21 (ha) eg45) ea47) 
        cases hyp
        exact f47
      · obtain ⟨a25, ea25, hyp⟩ := md_bd hyp
        obtain ⟨r25, er25, hyp⟩ := md_bd hyp
        have f25 := a_GC_layOut er25 f21 (fr_rc (ha) ea25) (f11.2)
        obtain ⟨g27, eg27, hyp⟩ := md_bd hyp
        obtain ⟨g29, eg29, hyp⟩ := md_bd hyp
        obtain ⟨a30, ea30, hyp⟩ := md_bd hyp
        obtain ⟨r30, er30, hyp⟩ := md_bd hyp
        have f30 := a_Jg_settle er30 f25 (fr_rc (fr_gr f25 (ha) eg27) ea30) 
        rcases fr_if hyp with ⟨q, hyp⟩ | ⟨q, hyp⟩
        · obtain ⟨g40, eg40, hyp⟩ := md_bd hyp
          obtain ⟨a42, ea42, hyp⟩ := md_bd hyp
          obtain ⟨r42, er42, hyp⟩ := md_bd hyp
          have f42 := a_Jg_end er42 f30 (fr_rc (fr_gr f30 (ha) eg40) ea42) 
          cases hyp
          exact f42
        · obtain ⟨g33, eg33, hyp⟩ := md_bd hyp
          obtain ⟨g35, eg35, hyp⟩ := md_bd hyp
          obtain ⟨a36, ea36, hyp⟩ := md_bd hyp
          obtain ⟨r36, er36, hyp⟩ := md_bd hyp
          have f36 := a_Jg_verdict er36 f30 (fr_rc (fr_gr f30 (ha) eg35) ea36) 
          obtain ⟨a37, ea37, hyp⟩ := md_bd hyp
          obtain ⟨r37, er37, hyp⟩ := md_bd hyp
          have f37 := a_Jg_end er37 f36 (fr_rc (fr_gr f30 (ha) eg33) ea37) 
          cases hyp
          exact f37
theorem a_GC_authorize {b N : Nat} {C : Nat × Nat} {h0 : ag_H} {a : Nat} {p1 : Int32} {p2 : Int32} {h : ag_H} {res : (Int32 ⊕ Nat) × ag_H} (hyp : fn_GC_authorize N C a p1 p2 h = some res) (hF : fr_H b h0 h) (ha : fr_ok b (some a)) : fr_H b h0 res.2 := a_GC_authorize_0 ha hyp hF 
theorem a_GC_fact_27 {b N : Nat} {C : Nat × Nat} {h0 : ag_H} {a : Nat} (ha : fr_ok b (some a)) {h : ag_H} {res : (Int32 ⊕ Nat) × ag_H} (hyp : fn_GC_fact_27 N C a h = some res) (hF : fr_H b h0 h) : fr_H b h0 res.2 := by
  unfold fn_GC_fact_27 at hyp
  obtain ⟨q1, hyp⟩ := md_ifs hyp
  cases hyp
  exact fr_nw hF (fr_ob rfl)
theorem a_GC_fact_0 {b N : Nat} {C : Nat × Nat} {h0 : ag_H} {a : Nat} (ha : fr_ok b (some a)) {x1 : Int32} {x2 : Int32} {h : ag_H} {res : (Int32 ⊕ Nat) × ag_H} (hyp : fn_GC_fact_0 N C a x1 x2 h = some res) (hF : fr_H b h0 h) : fr_H b h0 res.2 := by
  unfold fn_GC_fact_0 at hyp
  rcases fr_if hyp with ⟨q, hyp⟩ | ⟨q, hyp⟩
  · exact a_GC_fact_27 ha hyp hF
  · obtain ⟨g5, eg5, hyp⟩ := md_bd hyp
    obtain ⟨g6, eg6, hyp⟩ := md_bd hyp
    obtain ⟨g7, eg7, hyp⟩ := md_bd hyp
    rcases fr_if hyp with ⟨q, hyp⟩ | ⟨q, hyp⟩
    · exact a_GC_fact_27 ha hyp hF
    · rcases fr_if hyp with ⟨q, hyp⟩ | ⟨q, hyp⟩
      · exact a_GC_fact_27 ha hyp hF
      · rcases fr_if hyp with ⟨q, hyp⟩ | ⟨q, hyp⟩
        · obtain ⟨g15, eg15, hyp⟩ := md_bd hyp
          obtain ⟨g16, eg16, hyp⟩ := md_bd hyp
          obtain ⟨g17, eg17, hyp⟩ := md_bd hyp
          obtain ⟨p19, ep19, hyp⟩ := md_bd hyp
          obtain ⟨q19, hyp⟩ := md_ifs hyp
          obtain ⟨p21, ep21, hyp⟩ := md_bd hyp
          obtain ⟨q21, hyp⟩ := md_ifs hyp
          cases hyp
          exact hF
        · exact a_GC_fact_27 ha hyp hF
theorem a_GC_fact {b N : Nat} {C : Nat × Nat} {h0 : ag_H} {a : Nat} {p1 : Int32} {p2 : Int32} {h : ag_H} {res : (Int32 ⊕ Nat) × ag_H} (hyp : fn_GC_fact N C a p1 p2 h = some res) (hF : fr_H b h0 h) (ha : fr_ok b (some a)) : fr_H b h0 res.2 := a_GC_fact_0 ha hyp hF 
theorem a_Tk_tell_40 {b N : Nat} {C : Nat × Nat} {h0 : ag_H} {a : Nat} (ha : fr_ok b (some a)) {s0 : Int32} {h : ag_H} {res : (Int32) × ag_H} (hyp : fn_Tk_tell_40 N C a s0 h = some res) (hF : fr_H b h0 h) : fr_H b h0 res.2 := by
  unfold fn_Tk_tell_40 at hyp
  cases hyp
  exact hF
theorem a_Tk_tell_0 {b N : Nat} {C : Nat × Nat} {h0 : ag_H} {a : Nat} (ha : fr_ok b (some a)) {x1 : Int32} {h : ag_H} {res : (Int32) × ag_H} (hyp : fn_Tk_tell_0 N C a x1 h = some res) (hF : fr_H b h0 h) : fr_H b h0 res.2 := by
  unfold fn_Tk_tell_0 at hyp
  rcases fr_if hyp with ⟨q, hyp⟩ | ⟨q, hyp⟩
  · obtain ⟨g16, eg16, hyp⟩ := md_bd hyp
    obtain ⟨a17, ea17, hyp⟩ := md_bd hyp
    obtain ⟨r17, er17, hyp⟩ := md_bd hyp
    have f17 := a_AL_size er17 hF (fr_rc (fr_gr hF (ha) eg16) ea17) 
    exact a_Tk_tell_40 ha hyp f17 
  · rcases fr_if hyp with ⟨q, hyp⟩ | ⟨q, hyp⟩
    · obtain ⟨g9, eg9, hyp⟩ := md_bd hyp
      rcases fr_if hyp with ⟨q, hyp⟩ | ⟨q, hyp⟩
      · exact a_Tk_tell_40 ha hyp hF
      · exact a_Tk_tell_40 ha hyp hF
    · obtain ⟨g7, eg7, hyp⟩ := md_bd hyp
      exact a_Tk_tell_40 ha hyp hF 
theorem a_Tk_tell {b N : Nat} {C : Nat × Nat} {h0 : ag_H} {a : Nat} {p1 : Int32} {h : ag_H} {res : (Int32) × ag_H} (hyp : fn_Tk_tell N C a p1 h = some res) (hF : fr_H b h0 h) (ha : fr_ok b (some a)) : fr_H b h0 res.2 := a_Tk_tell_0 ha hyp hF 
theorem a_Lk_tell_28 {b N : Nat} {C : Nat × Nat} {h0 : ag_H} {a : Nat} (ha : fr_ok b (some a)) {s0 : Int32} {h : ag_H} {res : (Int32) × ag_H} (hyp : fn_Lk_tell_28 N C a s0 h = some res) (hF : fr_H b h0 h) : fr_H b h0 res.2 := by
  unfold fn_Lk_tell_28 at hyp
  cases hyp
  exact hF
theorem a_Lk_tell_0 {b N : Nat} {C : Nat × Nat} {h0 : ag_H} {a : Nat} (ha : fr_ok b (some a)) {x1 : Int32} {h : ag_H} {res : (Int32) × ag_H} (hyp : fn_Lk_tell_0 N C a x1 h = some res) (hF : fr_H b h0 h) : fr_H b h0 res.2 := by
  unfold fn_Lk_tell_0 at hyp
  rcases fr_if hyp with ⟨q, hyp⟩ | ⟨q, hyp⟩
  · obtain ⟨g13, eg13, hyp⟩ := md_bd hyp
    exact a_Lk_tell_28 ha hyp hF 
  · rcases fr_if hyp with ⟨q, hyp⟩ | ⟨q, hyp⟩
    · obtain ⟨g10, eg10, hyp⟩ := md_bd hyp
      exact a_Lk_tell_28 ha hyp hF 
    · obtain ⟨g8, eg8, hyp⟩ := md_bd hyp
      exact a_Lk_tell_28 ha hyp hF 
theorem a_Lk_tell {b N : Nat} {C : Nat × Nat} {h0 : ag_H} {a : Nat} {p1 : Int32} {h : ag_H} {res : (Int32) × ag_H} (hyp : fn_Lk_tell N C a p1 h = some res) (hF : fr_H b h0 h) (ha : fr_ok b (some a)) : fr_H b h0 res.2 := a_Lk_tell_0 ha hyp hF 
theorem a_GC_token_12 {b N : Nat} {C : Nat × Nat} {h0 : ag_H} {a : Nat} (ha : fr_ok b (some a)) {h : ag_H} {res : (Int32 ⊕ Nat) × ag_H} (hyp : fn_GC_token_12 N C a h = some res) (hF : fr_H b h0 h) : fr_H b h0 res.2 := by
  unfold fn_GC_token_12 at hyp
  obtain ⟨q1, hyp⟩ := md_ifs hyp
  cases hyp
  exact fr_nw hF (fr_ob rfl)
theorem a_GC_token_75 {b N : Nat} {C : Nat × Nat} {h0 : ag_H} {a : Nat} (ha : fr_ok b (some a)) {h : ag_H} {res : (Int32 ⊕ Nat) × ag_H} (hyp : fn_GC_token_75 N C a h = some res) (hF : fr_H b h0 h) : fr_H b h0 res.2 := by
  unfold fn_GC_token_75 at hyp
  obtain ⟨q1, hyp⟩ := md_ifs hyp
  cases hyp
  exact fr_nw hF (fr_ob rfl)
theorem a_GC_token_116 {b N : Nat} {C : Nat × Nat} {h0 : ag_H} {a : Nat} (ha : fr_ok b (some a)) {s0 : Int32} {h : ag_H} {res : (Int32 ⊕ Nat) × ag_H} (hyp : fn_GC_token_116 N C a s0 h = some res) (hF : fr_H b h0 h) : fr_H b h0 res.2 := by
  unfold fn_GC_token_116 at hyp
  cases hyp
  exact hF
theorem a_GC_token_72 {b N : Nat} {C : Nat × Nat} {h0 : ag_H} {a : Nat} (ha : fr_ok b (some a)) {x3 : Option Nat} {x4 : Int32} {x5 : Int32} {s0 : Int32} {s1 : Int32} {h : ag_H} {res : (Int32 ⊕ Nat) × ag_H} (hyp : fn_GC_token_72 N C a x3 x4 x5 s0 s1 h = some res) (hF : fr_H b h0 h) (hx3 : fr_ok b x3) : fr_H b h0 res.2 := by
  unfold fn_GC_token_72 at hyp
  rcases fr_if hyp with ⟨q, hyp⟩ | ⟨q, hyp⟩
  · rcases fr_if hyp with ⟨q, hyp⟩ | ⟨q, hyp⟩
    · obtain ⟨a13, ea13, hyp⟩ := md_bd hyp
      obtain ⟨r13, er13, hyp⟩ := md_bd hyp
      have f13 := a_Tk_tell er13 hF (fr_rc (hx3) ea13) 
      exact a_GC_token_116 ha hyp f13 
    · obtain ⟨g5, eg5, hyp⟩ := md_bd hyp
      obtain ⟨a7, ea7, hyp⟩ := md_bd hyp
      obtain ⟨r7, er7, hyp⟩ := md_bd hyp
      have f7 := a_AL_get er7 hF (fr_rc (fr_gr hF (hx3) eg5) ea7) 
      obtain ⟨q8, hyp⟩ := md_ifs hyp
      obtain ⟨a10, ea10, hyp⟩ := md_bd hyp
      obtain ⟨r10, er10, hyp⟩ := md_bd hyp
      have f10 := a_Lk_tell er10 f7.1 (fr_rc (f7.2) ea10) 
      exact a_GC_token_116 ha hyp f10 
  · exact a_GC_token_75 ha hyp hF
theorem a_GC_token_0 {b N : Nat} {C : Nat × Nat} {h0 : ag_H} {a : Nat} (ha : fr_ok b (some a)) {x1 : Int32} {x2 : Int32} {h : ag_H} {res : (Int32 ⊕ Nat) × ag_H} (hyp : fn_GC_token_0 N C a x1 x2 h = some res) (hF : fr_H b h0 h) : fr_H b h0 res.2 := by
  unfold fn_GC_token_0 at hyp
  obtain ⟨a3, ea3, hyp⟩ := md_bd hyp
  obtain ⟨r3, er3, hyp⟩ := md_bd hyp
  have f3 := a_GC_isToken er3 hF (fr_rc (ha) ea3) 
  rcases fr_if hyp with ⟨q, hyp⟩ | ⟨q, hyp⟩
  · exact a_GC_token_12 ha hyp f3
  · rcases fr_if hyp with ⟨q, hyp⟩ | ⟨q, hyp⟩
    · obtain ⟨g8, eg8, hyp⟩ := md_bd hyp
      obtain ⟨a10, ea10, hyp⟩ := md_bd hyp
      obtain ⟨r10, er10, hyp⟩ := md_bd hyp
      have f10 := a_AL_get er10 f3 (fr_rc (fr_gr f3 (ha) eg8) ea10) 
      obtain ⟨q11, hyp⟩ := md_ifs hyp
      obtain ⟨q15, hyp⟩ := md_ifs hyp
      obtain ⟨q19, hyp⟩ := md_ifs hyp
      rcases fr_if hyp with ⟨q, hyp⟩ | ⟨q, hyp⟩
      · exact a_GC_token_75 ha hyp f10.1
      · rcases fr_if hyp with ⟨q, hyp⟩ | ⟨q, hyp⟩
        · exact a_GC_token_72 ha hyp f10.1 (f10.2)
        · obtain ⟨g28, eg28, hyp⟩ := md_bd hyp
          obtain ⟨a29, ea29, hyp⟩ := md_bd hyp
          obtain ⟨r29, er29, hyp⟩ := md_bd hyp
          have f29 := a_AL_size er29 f10.1 (fr_rc (fr_gr f10.1 (f10.2) eg28) ea29) 
          exact a_GC_token_72 ha hyp f29 (f10.2)
    · exact a_GC_token_12 ha hyp f3
theorem a_GC_token {b N : Nat} {C : Nat × Nat} {h0 : ag_H} {a : Nat} {p1 : Int32} {p2 : Int32} {h : ag_H} {res : (Int32 ⊕ Nat) × ag_H} (hyp : fn_GC_token N C a p1 p2 h = some res) (hF : fr_H b h0 h) (ha : fr_ok b (some a)) : fr_H b h0 res.2 := a_GC_token_0 ha hyp hF 
