/-! frame: Rd_readFactor, Ln_isAtLastStar, Rd_readProduct, Rd_readSum, GC_isComparison, Rd_readComparison, Rd_readBody, Ar_copyOf3, Cl_init -/
theorem a_Rd_readFactor_129 {b N : Nat} {C : Nat × Nat} {h0 : ag_H} {a : Nat} (ha : fr_ok b (some a)) {kR : Nat → Option Nat → Int32 → ag_H → Option ((Int32) × ag_H)} (hkR : ∀ (ua : Nat) (u0 : Option Nat) (u1 : Int32) (hh : ag_H) (res : (Int32) × ag_H), kR ua u0 u1 hh = some res → fr_H b h0 hh → fr_ok b (some ua) → fr_ok b u0 → fr_H b h0 res.2) {s0 : Int32} {h : ag_H} {res : (Int32) × ag_H} (hyp : fn_Rd_readFactor_129 N C kR a s0 h = some res) (hF : fr_H b h0 h) : fr_H b h0 res.2 := by
  unfold fn_Rd_readFactor_129 at hyp
  obtain ⟨q1, hyp⟩ := md_ifs hyp
  cases hyp
  exact hF
theorem a_Rd_readFactor_128 {b N : Nat} {C : Nat × Nat} {h0 : ag_H} {a : Nat} (ha : fr_ok b (some a)) {kR : Nat → Option Nat → Int32 → ag_H → Option ((Int32) × ag_H)} (hkR : ∀ (ua : Nat) (u0 : Option Nat) (u1 : Int32) (hh : ag_H) (res : (Int32) × ag_H), kR ua u0 u1 hh = some res → fr_H b h0 hh → fr_ok b (some ua) → fr_ok b u0 → fr_H b h0 res.2) {h : ag_H} {res : (Int32) × ag_H} (hyp : fn_Rd_readFactor_128 N C kR a h = some res) (hF : fr_H b h0 h) : fr_H b h0 res.2 := by
  unfold fn_Rd_readFactor_128 at hyp
  exact a_Rd_readFactor_129 ha hkR hyp hF 
theorem a_Rd_readFactor_46 {b N : Nat} {C : Nat × Nat} {h0 : ag_H} {a : Nat} (ha : fr_ok b (some a)) {kR : Nat → Option Nat → Int32 → ag_H → Option ((Int32) × ag_H)} (hkR : ∀ (ua : Nat) (u0 : Option Nat) (u1 : Int32) (hh : ag_H) (res : (Int32) × ag_H), kR ua u0 u1 hh = some res → fr_H b h0 hh → fr_ok b (some ua) → fr_ok b u0 → fr_H b h0 res.2) {h : ag_H} {res : (Int32) × ag_H} (hyp : fn_Rd_readFactor_46 N C kR a h = some res) (hF : fr_H b h0 h) : fr_H b h0 res.2 := by
  unfold fn_Rd_readFactor_46 at hyp
  obtain ⟨q2, hyp⟩ := md_ifs hyp
  cases hyp
  exact hF
theorem a_Rd_readFactor_0 {b N : Nat} {C : Nat × Nat} {h0 : ag_H} {a : Nat} (ha : fr_ok b (some a)) {kR : Nat → Option Nat → Int32 → ag_H → Option ((Int32) × ag_H)} (hkR : ∀ (ua : Nat) (u0 : Option Nat) (u1 : Int32) (hh : ag_H) (res : (Int32) × ag_H), kR ua u0 u1 hh = some res → fr_H b h0 hh → fr_ok b (some ua) → fr_ok b u0 → fr_H b h0 res.2) {x1 : Option Nat} {x2 : Int32} {h : ag_H} {res : (Int32) × ag_H} (hyp : fn_Rd_readFactor_0 N C kR a x1 x2 h = some res) (hF : fr_H b h0 h) (hx1 : fr_ok b x1) : fr_H b h0 res.2 := by
  unfold fn_Rd_readFactor_0 at hyp
  obtain ⟨a2, ea2, hyp⟩ := md_bd hyp
  obtain ⟨r2, er2, hyp⟩ := md_bd hyp
  have f2 := a_Ln_sign er2 hF (fr_rc (hx1) ea2) 
  rcases fr_if hyp with ⟨q, hyp⟩ | ⟨q, hyp⟩
  · obtain ⟨g47, eg47, hyp⟩ := md_bd hyp
    obtain ⟨h50, eh50, hyp⟩ := md_bd hyp
    have hF50 : fr_H b h0 h50 := fr_pf f2 (hx1) fr_vi eh50
    rcases fr_if hyp with ⟨q, hyp⟩ | ⟨q, hyp⟩
    · exact a_Rd_readFactor_46 ha hkR hyp hF50
    · obtain ⟨a59, ea59, hyp⟩ := md_bd hyp
      obtain ⟨r59, er59, hyp⟩ := md_bd hyp
      have f59 := hkR _ _ _ _ _ er59 hF50 (fr_rc (ha) ea59) (hx1)
      rcases fr_if hyp with ⟨q, hyp⟩ | ⟨q, hyp⟩
      · exact a_Rd_readFactor_46 ha hkR hyp f59
      · obtain ⟨a62, ea62, hyp⟩ := md_bd hyp
        obtain ⟨r62, er62, hyp⟩ := md_bd hyp
        have f62 := a_Ln_sign er62 f59 (fr_rc (hx1) ea62) 
        rcases fr_if hyp with ⟨q, hyp⟩ | ⟨q, hyp⟩
        · obtain ⟨g67, eg67, hyp⟩ := md_bd hyp
          obtain ⟨h70, eh70, hyp⟩ := md_bd hyp
          have hF70 : fr_H b h0 h70 := fr_pf f62 (hx1) fr_vi eh70
          obtain ⟨q72, hyp⟩ := md_ifs hyp
          cases hyp
          exact hF70
        · exact a_Rd_readFactor_46 ha hkR hyp f62
  · obtain ⟨r8, er8, hyp⟩ := md_bd hyp
    have f8 := a_Rd_isVariable er8 f2 
    rcases fr_if hyp with ⟨q, hyp⟩ | ⟨q, hyp⟩
    · obtain ⟨a11, ea11, hyp⟩ := md_bd hyp
      obtain ⟨r11, er11, hyp⟩ := md_bd hyp
      have f11 := a_Ln_digits er11 f8 (fr_rc (hx1) ea11) 
      rcases fr_if hyp with ⟨q, hyp⟩ | ⟨q, hyp⟩
      · exact a_Rd_readFactor_128 ha hkR hyp f11
      · obtain ⟨a17, ea17, hyp⟩ := md_bd hyp
        obtain ⟨r17, er17, hyp⟩ := md_bd hyp
        have f17 := a_Rd_addStep er17 f11 (fr_rc (ha) ea17) 
        rcases fr_if hyp with ⟨q, hyp⟩ | ⟨q, hyp⟩
        · exact a_Rd_readFactor_128 ha hkR hyp f17
        · exact a_Rd_readFactor_129 ha hkR hyp f17
    · obtain ⟨g23, eg23, hyp⟩ := md_bd hyp
      obtain ⟨h26, eh26, hyp⟩ := md_bd hyp
      have hF26 : fr_H b h0 h26 := fr_pf f8 (hx1) fr_vi eh26
      obtain ⟨g29, eg29, hyp⟩ := md_bd hyp
      obtain ⟨h36, eh36, hyp⟩ := md_bd hyp
      have hF36 : fr_H b h0 h36 := fr_pf hF26 (ha) fr_vi eh36
      obtain ⟨a43, ea43, hyp⟩ := md_bd hyp
      obtain ⟨r43, er43, hyp⟩ := md_bd hyp
      have f43 := a_Rd_addStep er43 hF36 (fr_rc (ha) ea43) 
      obtain ⟨q44, hyp⟩ := md_ifs hyp
      cases hyp
      exact f43
theorem a_Rd_readFactor {b N : Nat} {C : Nat × Nat} {h0 : ag_H} {kR : Nat → Option Nat → Int32 → ag_H → Option ((Int32) × ag_H)} (hkR : ∀ (ua : Nat) (u0 : Option Nat) (u1 : Int32) (hh : ag_H) (res : (Int32) × ag_H), kR ua u0 u1 hh = some res → fr_H b h0 hh → fr_ok b (some ua) → fr_ok b u0 → fr_H b h0 res.2) {a : Nat} {p1 : Option Nat} {p2 : Int32} {h : ag_H} {res : (Int32) × ag_H} (hyp : fn_Rd_readFactor N C kR a p1 p2 h = some res) (hF : fr_H b h0 h) (ha : fr_ok b (some a)) (hp1 : fr_ok b p1) : fr_H b h0 res.2 := a_Rd_readFactor_0 ha hkR hyp hF hp1
theorem a_Ln_isAtLastStar_18 {b N : Nat} {C : Nat × Nat} {h0 : ag_H} {a : Nat} (ha : fr_ok b (some a)) : ∀ (n : Nat) (res : (Int32) × ag_H) (x1 : Int32) (h : ag_H) , fn_Ln_isAtLastStar_18 N C a n x1 h = some res → fr_H b h0 h → fr_H b h0 res.2 := by
  intro n
  induction n with
  | zero =>
    intro res x1 h hyp
    cases hyp
  | succ n ih =>
    intro res x1 h hyp hF 
    rw [fe_Ln_isAtLastStar_18] at hyp
    obtain ⟨g3, eg3, hyp⟩ := md_bd hyp
    rcases fr_if hyp with ⟨q, hyp⟩ | ⟨q, hyp⟩
    · obtain ⟨q6, hyp⟩ := md_ifs hyp
      cases hyp
      exact hF
    · obtain ⟨g8, eg8, hyp⟩ := md_bd hyp
      obtain ⟨p10, ep10, hyp⟩ := md_bd hyp
      obtain ⟨q10, hyp⟩ := md_ifs hyp
      rcases fr_if hyp with ⟨q, hyp⟩ | ⟨q, hyp⟩
      · exact ih _ _ _ hyp hF
      · obtain ⟨q16, hyp⟩ := md_ifs hyp
        cases hyp
        exact hF
theorem a_Ln_isAtLastStar_0 {b N : Nat} {C : Nat × Nat} {h0 : ag_H} {a : Nat} (ha : fr_ok b (some a)) {h : ag_H} {res : (Int32) × ag_H} (hyp : fn_Ln_isAtLastStar_0 N C a h = some res) (hF : fr_H b h0 h) : fr_H b h0 res.2 := by
  unfold fn_Ln_isAtLastStar_0 at hyp
  obtain ⟨a2, ea2, hyp⟩ := md_bd hyp
  obtain ⟨r2, er2, hyp⟩ := md_bd hyp
  have f2 := a_Ln_sign er2 hF (fr_rc (ha) ea2) 
  rcases fr_if hyp with ⟨q, hyp⟩ | ⟨q, hyp⟩
  · obtain ⟨g6, eg6, hyp⟩ := md_bd hyp
    exact a_Ln_isAtLastStar_18 ha N _ _ _ hyp f2 
  · obtain ⟨q11, hyp⟩ := md_ifs hyp
    cases hyp
    exact f2
theorem a_Ln_isAtLastStar {b N : Nat} {C : Nat × Nat} {h0 : ag_H} {a : Nat} {h : ag_H} {res : (Int32) × ag_H} (hyp : fn_Ln_isAtLastStar N C a h = some res) (hF : fr_H b h0 h) (ha : fr_ok b (some a)) : fr_H b h0 res.2 := a_Ln_isAtLastStar_0 ha hyp hF 
theorem a_Rd_readProduct_98 {b N : Nat} {C : Nat × Nat} {h0 : ag_H} {a : Nat} (ha : fr_ok b (some a)) {kR : Nat → Option Nat → Int32 → ag_H → Option ((Int32) × ag_H)} (hkR : ∀ (ua : Nat) (u0 : Option Nat) (u1 : Int32) (hh : ag_H) (res : (Int32) × ag_H), kR ua u0 u1 hh = some res → fr_H b h0 hh → fr_ok b (some ua) → fr_ok b u0 → fr_H b h0 res.2) {x3 : Int32} {h : ag_H} {res : (Int32) × ag_H} (hyp : fn_Rd_readProduct_98 N C kR a x3 h = some res) (hF : fr_H b h0 h) : fr_H b h0 res.2 := by
  unfold fn_Rd_readProduct_98 at hyp
  obtain ⟨q2, hyp⟩ := md_ifs hyp
  cases hyp
  exact hF
theorem a_Rd_readProduct_91 {b N : Nat} {C : Nat × Nat} {h0 : ag_H} {a : Nat} (ha : fr_ok b (some a)) {kR : Nat → Option Nat → Int32 → ag_H → Option ((Int32) × ag_H)} (hkR : ∀ (ua : Nat) (u0 : Option Nat) (u1 : Int32) (hh : ag_H) (res : (Int32) × ag_H), kR ua u0 u1 hh = some res → fr_H b h0 hh → fr_ok b (some ua) → fr_ok b u0 → fr_H b h0 res.2) {k10 : Option Nat → Int32 → Int32 → Int32 → ag_H → Option ((Int32) × ag_H)} (hk10 : ∀ (res : (Int32) × ag_H) (y1 : Option Nat) (y2 : Int32) (y3 : Int32) (y4 : Int32) (hh : ag_H), k10 y1 y2 y3 y4 hh = some res → fr_H b h0 hh → fr_ok b y1 → fr_H b h0 res.2) {x1 : Option Nat} {x2 : Int32} {x4 : Int32} {s0 : Int32} {h : ag_H} {res : (Int32) × ag_H} (hyp : fn_Rd_readProduct_91 N C kR a k10 x1 x2 x4 s0 h = some res) (hF : fr_H b h0 h) (hx1 : fr_ok b x1) : fr_H b h0 res.2 := by
  unfold fn_Rd_readProduct_91 at hyp
  exact hk10 _ _ _ _ _ _ hyp hF (hx1)
theorem a_Rd_readProduct_90 {b N : Nat} {C : Nat × Nat} {h0 : ag_H} {a : Nat} (ha : fr_ok b (some a)) {kR : Nat → Option Nat → Int32 → ag_H → Option ((Int32) × ag_H)} (hkR : ∀ (ua : Nat) (u0 : Option Nat) (u1 : Int32) (hh : ag_H) (res : (Int32) × ag_H), kR ua u0 u1 hh = some res → fr_H b h0 hh → fr_ok b (some ua) → fr_ok b u0 → fr_H b h0 res.2) {k10 : Option Nat → Int32 → Int32 → Int32 → ag_H → Option ((Int32) × ag_H)} (hk10 : ∀ (res : (Int32) × ag_H) (y1 : Option Nat) (y2 : Int32) (y3 : Int32) (y4 : Int32) (hh : ag_H), k10 y1 y2 y3 y4 hh = some res → fr_H b h0 hh → fr_ok b y1 → fr_H b h0 res.2) {x1 : Option Nat} {x2 : Int32} {x4 : Int32} {h : ag_H} {res : (Int32) × ag_H} (hyp : fn_Rd_readProduct_90 N C kR a k10 x1 x2 x4 h = some res) (hF : fr_H b h0 h) (hx1 : fr_ok b x1) : fr_H b h0 res.2 := by
  unfold fn_Rd_readProduct_90 at hyp
  exact a_Rd_readProduct_91 ha hkR hk10 hyp hF (hx1)
theorem a_Rd_readProduct_57 {b N : Nat} {C : Nat × Nat} {h0 : ag_H} {a : Nat} (ha : fr_ok b (some a)) {kR : Nat → Option Nat → Int32 → ag_H → Option ((Int32) × ag_H)} (hkR : ∀ (ua : Nat) (u0 : Option Nat) (u1 : Int32) (hh : ag_H) (res : (Int32) × ag_H), kR ua u0 u1 hh = some res → fr_H b h0 hh → fr_ok b (some ua) → fr_ok b u0 → fr_H b h0 res.2) {k10 : Option Nat → Int32 → Int32 → Int32 → ag_H → Option ((Int32) × ag_H)} (hk10 : ∀ (res : (Int32) × ag_H) (y1 : Option Nat) (y2 : Int32) (y3 : Int32) (y4 : Int32) (hh : ag_H), k10 y1 y2 y3 y4 hh = some res → fr_H b h0 hh → fr_ok b y1 → fr_H b h0 res.2) {x1 : Option Nat} {x2 : Int32} {x3 : Int32} {x4 : Int32} {s0 : Int32} {h : ag_H} {res : (Int32) × ag_H} (hyp : fn_Rd_readProduct_57 N C kR a k10 x1 x2 x3 x4 s0 h = some res) (hF : fr_H b h0 h) (hx1 : fr_ok b x1) : fr_H b h0 res.2 := by
  unfold fn_Rd_readProduct_57 at hyp
  rcases fr_if hyp with ⟨q, hyp⟩ | ⟨q, hyp⟩
  · exact a_Rd_readProduct_98 ha hkR hyp hF
  · obtain ⟨a7, ea7, hyp⟩ := md_bd hyp
    obtain ⟨r7, er7, hyp⟩ := md_bd hyp
    have f7 := a_Rd_readFactor hkR er7 hF (fr_rc (ha) ea7) (hx1)
    rcases fr_if hyp with ⟨q, hyp⟩ | ⟨q, hyp⟩
    · exact a_Rd_readProduct_90 ha hkR hk10 hyp f7 (hx1)
    · obtain ⟨a12, ea12, hyp⟩ := md_bd hyp
      obtain ⟨r12, er12, hyp⟩ := md_bd hyp
      have f12 := a_Rd_addStep er12 f7 (fr_rc (ha) ea12) 
      rcases fr_if hyp with ⟨q, hyp⟩ | ⟨q, hyp⟩
      · exact a_Rd_readProduct_90 ha hkR hk10 hyp f12 (hx1)
      · exact a_Rd_readProduct_91 ha hkR hk10 hyp f12 (hx1)
theorem a_Rd_readProduct_10 {b N : Nat} {C : Nat × Nat} {h0 : ag_H} {a : Nat} (ha : fr_ok b (some a)) {kR : Nat → Option Nat → Int32 → ag_H → Option ((Int32) × ag_H)} (hkR : ∀ (ua : Nat) (u0 : Option Nat) (u1 : Int32) (hh : ag_H) (res : (Int32) × ag_H), kR ua u0 u1 hh = some res → fr_H b h0 hh → fr_ok b (some ua) → fr_ok b u0 → fr_H b h0 res.2) : ∀ (n : Nat) (res : (Int32) × ag_H) (x1 : Option Nat) (x2 : Int32) (x3 : Int32) (x4 : Int32) (h : ag_H) , fn_Rd_readProduct_10 N C kR a n x1 x2 x3 x4 h = some res → fr_H b h0 h → fr_ok b x1 → fr_H b h0 res.2 := by
  intro n
  induction n with
  | zero =>
    intro res x1 x2 x3 x4 h hyp
    cases hyp
  | succ n ih =>
    intro res x1 x2 x3 x4 h hyp hF hx1
    rw [fe_Rd_readProduct_10] at hyp
    rcases fr_if hyp with ⟨q, hyp⟩ | ⟨q, hyp⟩
    · exact a_Rd_readProduct_98 ha hkR hyp hF
    · rcases fr_if hyp with ⟨q, hyp⟩ | ⟨q, hyp⟩
      · exact a_Rd_readProduct_98 ha hkR hyp hF
      · obtain ⟨a7, ea7, hyp⟩ := md_bd hyp
        obtain ⟨r7, er7, hyp⟩ := md_bd hyp
        have f7 := a_Ln_isAtLastStar er7 hF (fr_rc (hx1) ea7) 
        rcases fr_if hyp with ⟨q, hyp⟩ | ⟨q, hyp⟩
        · obtain ⟨a11, ea11, hyp⟩ := md_bd hyp
          obtain ⟨r11, er11, hyp⟩ := md_bd hyp
          have f11 := a_Ln_takes er11 f7 (fr_rc (hx1) ea11) 
          rcases fr_if hyp with ⟨q, hyp⟩ | ⟨q, hyp⟩
          · obtain ⟨a15, ea15, hyp⟩ := md_bd hyp
            obtain ⟨r15, er15, hyp⟩ := md_bd hyp
            have f15 := a_Ln_takes er15 f11 (fr_rc (hx1) ea15) 
            rcases fr_if hyp with ⟨q, hyp⟩ | ⟨q, hyp⟩
            · exact a_Rd_readProduct_57 ha hkR ih hyp f15 (hx1)
            · exact a_Rd_readProduct_57 ha hkR ih hyp f15 (hx1)
          · exact a_Rd_readProduct_57 ha hkR ih hyp f11 (hx1)
        · exact a_Rd_readProduct_98 ha hkR hyp f7
theorem a_Rd_readProduct_0 {b N : Nat} {C : Nat × Nat} {h0 : ag_H} {a : Nat} (ha : fr_ok b (some a)) {kR : Nat → Option Nat → Int32 → ag_H → Option ((Int32) × ag_H)} (hkR : ∀ (ua : Nat) (u0 : Option Nat) (u1 : Int32) (hh : ag_H) (res : (Int32) × ag_H), kR ua u0 u1 hh = some res → fr_H b h0 hh → fr_ok b (some ua) → fr_ok b u0 → fr_H b h0 res.2) {x1 : Option Nat} {x2 : Int32} {h : ag_H} {res : (Int32) × ag_H} (hyp : fn_Rd_readProduct_0 N C kR a x1 x2 h = some res) (hF : fr_H b h0 h) (hx1 : fr_ok b x1) : fr_H b h0 res.2 := by
  unfold fn_Rd_readProduct_0 at hyp
  obtain ⟨a4, ea4, hyp⟩ := md_bd hyp
  obtain ⟨r4, er4, hyp⟩ := md_bd hyp
  have f4 := a_Rd_readFactor hkR er4 hF (fr_rc (ha) ea4) (hx1)
  exact a_Rd_readProduct_10 ha hkR N _ _ _ _ _ _ hyp f4 (hx1)
theorem a_Rd_readProduct {b N : Nat} {C : Nat × Nat} {h0 : ag_H} {kR : Nat → Option Nat → Int32 → ag_H → Option ((Int32) × ag_H)} (hkR : ∀ (ua : Nat) (u0 : Option Nat) (u1 : Int32) (hh : ag_H) (res : (Int32) × ag_H), kR ua u0 u1 hh = some res → fr_H b h0 hh → fr_ok b (some ua) → fr_ok b u0 → fr_H b h0 res.2) {a : Nat} {p1 : Option Nat} {p2 : Int32} {h : ag_H} {res : (Int32) × ag_H} (hyp : fn_Rd_readProduct N C kR a p1 p2 h = some res) (hF : fr_H b h0 h) (ha : fr_ok b (some a)) (hp1 : fr_ok b p1) : fr_H b h0 res.2 := a_Rd_readProduct_0 ha hkR hyp hF hp1
theorem a_Rd_readSum_91 {b N : Nat} {C : Nat × Nat} {h0 : ag_H} {a : Nat} (ha : fr_ok b (some a)) {kR : Nat → Option Nat → Int32 → ag_H → Option ((Int32) × ag_H)} (hkR : ∀ (ua : Nat) (u0 : Option Nat) (u1 : Int32) (hh : ag_H) (res : (Int32) × ag_H), kR ua u0 u1 hh = some res → fr_H b h0 hh → fr_ok b (some ua) → fr_ok b u0 → fr_H b h0 res.2) {x3 : Int32} {h : ag_H} {res : (Int32) × ag_H} (hyp : fn_Rd_readSum_91 N C kR a x3 h = some res) (hF : fr_H b h0 h) : fr_H b h0 res.2 := by
  unfold fn_Rd_readSum_91 at hyp
  obtain ⟨q2, hyp⟩ := md_ifs hyp
  cases hyp
  exact hF
theorem a_Rd_readSum_84 {b N : Nat} {C : Nat × Nat} {h0 : ag_H} {a : Nat} (ha : fr_ok b (some a)) {kR : Nat → Option Nat → Int32 → ag_H → Option ((Int32) × ag_H)} (hkR : ∀ (ua : Nat) (u0 : Option Nat) (u1 : Int32) (hh : ag_H) (res : (Int32) × ag_H), kR ua u0 u1 hh = some res → fr_H b h0 hh → fr_ok b (some ua) → fr_ok b u0 → fr_H b h0 res.2) {k10 : Option Nat → Int32 → Int32 → Int32 → ag_H → Option ((Int32) × ag_H)} (hk10 : ∀ (res : (Int32) × ag_H) (y1 : Option Nat) (y2 : Int32) (y3 : Int32) (y4 : Int32) (hh : ag_H), k10 y1 y2 y3 y4 hh = some res → fr_H b h0 hh → fr_ok b y1 → fr_H b h0 res.2) {x1 : Option Nat} {x2 : Int32} {x4 : Int32} {s0 : Int32} {h : ag_H} {res : (Int32) × ag_H} (hyp : fn_Rd_readSum_84 N C kR a k10 x1 x2 x4 s0 h = some res) (hF : fr_H b h0 h) (hx1 : fr_ok b x1) : fr_H b h0 res.2 := by
  unfold fn_Rd_readSum_84 at hyp
  exact hk10 _ _ _ _ _ _ hyp hF (hx1)
theorem a_Rd_readSum_83 {b N : Nat} {C : Nat × Nat} {h0 : ag_H} {a : Nat} (ha : fr_ok b (some a)) {kR : Nat → Option Nat → Int32 → ag_H → Option ((Int32) × ag_H)} (hkR : ∀ (ua : Nat) (u0 : Option Nat) (u1 : Int32) (hh : ag_H) (res : (Int32) × ag_H), kR ua u0 u1 hh = some res → fr_H b h0 hh → fr_ok b (some ua) → fr_ok b u0 → fr_H b h0 res.2) {k10 : Option Nat → Int32 → Int32 → Int32 → ag_H → Option ((Int32) × ag_H)} (hk10 : ∀ (res : (Int32) × ag_H) (y1 : Option Nat) (y2 : Int32) (y3 : Int32) (y4 : Int32) (hh : ag_H), k10 y1 y2 y3 y4 hh = some res → fr_H b h0 hh → fr_ok b y1 → fr_H b h0 res.2) {x1 : Option Nat} {x2 : Int32} {x4 : Int32} {h : ag_H} {res : (Int32) × ag_H} (hyp : fn_Rd_readSum_83 N C kR a k10 x1 x2 x4 h = some res) (hF : fr_H b h0 h) (hx1 : fr_ok b x1) : fr_H b h0 res.2 := by
  unfold fn_Rd_readSum_83 at hyp
  exact a_Rd_readSum_84 ha hkR hk10 hyp hF (hx1)
theorem a_Rd_readSum_50 {b N : Nat} {C : Nat × Nat} {h0 : ag_H} {a : Nat} (ha : fr_ok b (some a)) {kR : Nat → Option Nat → Int32 → ag_H → Option ((Int32) × ag_H)} (hkR : ∀ (ua : Nat) (u0 : Option Nat) (u1 : Int32) (hh : ag_H) (res : (Int32) × ag_H), kR ua u0 u1 hh = some res → fr_H b h0 hh → fr_ok b (some ua) → fr_ok b u0 → fr_H b h0 res.2) {k10 : Option Nat → Int32 → Int32 → Int32 → ag_H → Option ((Int32) × ag_H)} (hk10 : ∀ (res : (Int32) × ag_H) (y1 : Option Nat) (y2 : Int32) (y3 : Int32) (y4 : Int32) (hh : ag_H), k10 y1 y2 y3 y4 hh = some res → fr_H b h0 hh → fr_ok b y1 → fr_H b h0 res.2) {x1 : Option Nat} {x2 : Int32} {x3 : Int32} {x4 : Int32} {s0 : Int32} {h : ag_H} {res : (Int32) × ag_H} (hyp : fn_Rd_readSum_50 N C kR a k10 x1 x2 x3 x4 s0 h = some res) (hF : fr_H b h0 h) (hx1 : fr_ok b x1) : fr_H b h0 res.2 := by
  unfold fn_Rd_readSum_50 at hyp
  rcases fr_if hyp with ⟨q, hyp⟩ | ⟨q, hyp⟩
  · exact a_Rd_readSum_91 ha hkR hyp hF
  · obtain ⟨a7, ea7, hyp⟩ := md_bd hyp
    obtain ⟨r7, er7, hyp⟩ := md_bd hyp
    have f7 := a_Rd_readProduct hkR er7 hF (fr_rc (ha) ea7) (hx1)
    rcases fr_if hyp with ⟨q, hyp⟩ | ⟨q, hyp⟩
    · exact a_Rd_readSum_83 ha hkR hk10 hyp f7 (hx1)
    · obtain ⟨a12, ea12, hyp⟩ := md_bd hyp
      obtain ⟨r12, er12, hyp⟩ := md_bd hyp
      have f12 := a_Rd_addStep er12 f7 (fr_rc (ha) ea12) 
      rcases fr_if hyp with ⟨q, hyp⟩ | ⟨q, hyp⟩
      · exact a_Rd_readSum_83 ha hkR hk10 hyp f12 (hx1)
      · exact a_Rd_readSum_84 ha hkR hk10 hyp f12 (hx1)
theorem a_Rd_readSum_10 {b N : Nat} {C : Nat × Nat} {h0 : ag_H} {a : Nat} (ha : fr_ok b (some a)) {kR : Nat → Option Nat → Int32 → ag_H → Option ((Int32) × ag_H)} (hkR : ∀ (ua : Nat) (u0 : Option Nat) (u1 : Int32) (hh : ag_H) (res : (Int32) × ag_H), kR ua u0 u1 hh = some res → fr_H b h0 hh → fr_ok b (some ua) → fr_ok b u0 → fr_H b h0 res.2) : ∀ (n : Nat) (res : (Int32) × ag_H) (x1 : Option Nat) (x2 : Int32) (x3 : Int32) (x4 : Int32) (h : ag_H) , fn_Rd_readSum_10 N C kR a n x1 x2 x3 x4 h = some res → fr_H b h0 h → fr_ok b x1 → fr_H b h0 res.2 := by
  intro n
  induction n with
  | zero =>
    intro res x1 x2 x3 x4 h hyp
    cases hyp
  | succ n ih =>
    intro res x1 x2 x3 x4 h hyp hF hx1
    rw [fe_Rd_readSum_10] at hyp
    rcases fr_if hyp with ⟨q, hyp⟩ | ⟨q, hyp⟩
    · exact a_Rd_readSum_91 ha hkR hyp hF
    · rcases fr_if hyp with ⟨q, hyp⟩ | ⟨q, hyp⟩
      · exact a_Rd_readSum_91 ha hkR hyp hF
      · obtain ⟨a8, ea8, hyp⟩ := md_bd hyp
        obtain ⟨r8, er8, hyp⟩ := md_bd hyp
        have f8 := a_Ln_takes er8 hF (fr_rc (hx1) ea8) 
        rcases fr_if hyp with ⟨q, hyp⟩ | ⟨q, hyp⟩
        · obtain ⟨a12, ea12, hyp⟩ := md_bd hyp
          obtain ⟨r12, er12, hyp⟩ := md_bd hyp
          have f12 := a_Ln_takes er12 f8 (fr_rc (hx1) ea12) 
          rcases fr_if hyp with ⟨q, hyp⟩ | ⟨q, hyp⟩
          · exact a_Rd_readSum_50 ha hkR ih hyp f12 (hx1)
          · exact a_Rd_readSum_50 ha hkR ih hyp f12 (hx1)
        · exact a_Rd_readSum_50 ha hkR ih hyp f8 (hx1)
theorem a_Rd_readSum_0 {b N : Nat} {C : Nat × Nat} {h0 : ag_H} {a : Nat} (ha : fr_ok b (some a)) {kR : Nat → Option Nat → Int32 → ag_H → Option ((Int32) × ag_H)} (hkR : ∀ (ua : Nat) (u0 : Option Nat) (u1 : Int32) (hh : ag_H) (res : (Int32) × ag_H), kR ua u0 u1 hh = some res → fr_H b h0 hh → fr_ok b (some ua) → fr_ok b u0 → fr_H b h0 res.2) {x1 : Option Nat} {x2 : Int32} {h : ag_H} {res : (Int32) × ag_H} (hyp : fn_Rd_readSum_0 N C kR a x1 x2 h = some res) (hF : fr_H b h0 h) (hx1 : fr_ok b x1) : fr_H b h0 res.2 := by
  unfold fn_Rd_readSum_0 at hyp
  obtain ⟨a4, ea4, hyp⟩ := md_bd hyp
  obtain ⟨r4, er4, hyp⟩ := md_bd hyp
  have f4 := a_Rd_readProduct hkR er4 hF (fr_rc (ha) ea4) (hx1)
  exact a_Rd_readSum_10 ha hkR N _ _ _ _ _ _ hyp f4 (hx1)
theorem a_Rd_readSum {b N : Nat} {C : Nat × Nat} {h0 : ag_H} {kR : Nat → Option Nat → Int32 → ag_H → Option ((Int32) × ag_H)} (hkR : ∀ (ua : Nat) (u0 : Option Nat) (u1 : Int32) (hh : ag_H) (res : (Int32) × ag_H), kR ua u0 u1 hh = some res → fr_H b h0 hh → fr_ok b (some ua) → fr_ok b u0 → fr_H b h0 res.2) {a : Nat} {p1 : Option Nat} {p2 : Int32} {h : ag_H} {res : (Int32) × ag_H} (hyp : fn_Rd_readSum N C kR a p1 p2 h = some res) (hF : fr_H b h0 h) (ha : fr_ok b (some a)) (hp1 : fr_ok b p1) : fr_H b h0 res.2 := a_Rd_readSum_0 ha hkR hyp hF hp1
theorem a_Rd_readSumR {b N : Nat} {C : Nat × Nat} {h0 : ag_H} : ∀ (n : Nat) (a : Nat) (p1 : Option Nat) (p2 : Int32) (h : ag_H) (res : (Int32) × ag_H), fn_Rd_readSumR N C n a p1 p2 h = some res → fr_H b h0 h → fr_ok b (some a) → fr_ok b p1 → fr_H b h0 res.2
  | 0, _, _, _, _, _, hyp, _, _, _ => by cases hyp
  | n + 1, a, p1, p2, h, res, hyp, hF, ha, hp1 => a_Rd_readSum (fun u0 u1 u2 u3 r hy => a_Rd_readSumR n u0 u1 u2 u3 r hy) hyp hF ha hp1
theorem a_GC_isComparison_29 {b N : Nat} {C : Nat × Nat} {h0 : ag_H} {s0 : Int32} {h : ag_H} {res : (Int32) × ag_H} (hyp : fn_GC_isComparison_29 N C s0 h = some res) (hF : fr_H b h0 h) : fr_H b h0 res.2 := by
  unfold fn_GC_isComparison_29 at hyp
  obtain ⟨q1, hyp⟩ := md_ifs hyp
  cases hyp
  exact hF
theorem a_GC_isComparison_24 {b N : Nat} {C : Nat × Nat} {h0 : ag_H} {h : ag_H} {res : (Int32) × ag_H} (hyp : fn_GC_isComparison_24 N C h = some res) (hF : fr_H b h0 h) : fr_H b h0 res.2 := by
  unfold fn_GC_isComparison_24 at hyp
  exact a_GC_isComparison_29 hyp hF 
theorem a_GC_isComparison_0 {b N : Nat} {C : Nat × Nat} {h0 : ag_H} {x0 : Int32} {h : ag_H} {res : (Int32) × ag_H} (hyp : fn_GC_isComparison_0 N C x0 h = some res) (hF : fr_H b h0 h) : fr_H b h0 res.2 := by
  unfold fn_GC_isComparison_0 at hyp
  rcases fr_if hyp with ⟨q, hyp⟩ | ⟨q, hyp⟩
  · exact a_GC_isComparison_24 hyp hF
  · rcases fr_if hyp with ⟨q, hyp⟩ | ⟨q, hyp⟩
    · exact a_GC_isComparison_24 hyp hF
    · rcases fr_if hyp with ⟨q, hyp⟩ | ⟨q, hyp⟩
      · exact a_GC_isComparison_24 hyp hF
      · rcases fr_if hyp with ⟨q, hyp⟩ | ⟨q, hyp⟩
        · exact a_GC_isComparison_24 hyp hF
        · exact a_GC_isComparison_29 hyp hF
theorem a_GC_isComparison {b N : Nat} {C : Nat × Nat} {h0 : ag_H} {p0 : Int32} {h : ag_H} {res : (Int32) × ag_H} (hyp : fn_GC_isComparison N C p0 h = some res) (hF : fr_H b h0 h) : fr_H b h0 res.2 := a_GC_isComparison_0 hyp hF 
theorem a_Rd_readComparison_58 {b N : Nat} {C : Nat × Nat} {h0 : ag_H} {a : Nat} (ha : fr_ok b (some a)) {s0 : Int32} {h : ag_H} {res : (Int32) × ag_H} (hyp : fn_Rd_readComparison_58 N C a s0 h = some res) (hF : fr_H b h0 h) : fr_H b h0 res.2 := by
  unfold fn_Rd_readComparison_58 at hyp
  obtain ⟨q1, hyp⟩ := md_ifs hyp
  cases hyp
  exact hF
theorem a_Rd_readComparison_57 {b N : Nat} {C : Nat × Nat} {h0 : ag_H} {a : Nat} (ha : fr_ok b (some a)) {h : ag_H} {res : (Int32) × ag_H} (hyp : fn_Rd_readComparison_57 N C a h = some res) (hF : fr_H b h0 h) : fr_H b h0 res.2 := by
  unfold fn_Rd_readComparison_57 at hyp
  exact a_Rd_readComparison_58 ha hyp hF 
theorem a_Rd_readComparison_0 {b N : Nat} {C : Nat × Nat} {h0 : ag_H} {a : Nat} (ha : fr_ok b (some a)) {x1 : Option Nat} {h : ag_H} {res : (Int32) × ag_H} (hyp : fn_Rd_readComparison_0 N C a x1 h = some res) (hF : fr_H b h0 h) (hx1 : fr_ok b x1) : fr_H b h0 res.2 := by
  unfold fn_Rd_readComparison_0 at hyp
  obtain ⟨a4, ea4, hyp⟩ := md_bd hyp
  obtain ⟨r4, er4, hyp⟩ := md_bd hyp
  have f4 := a_Rd_readSumR 6 _ _ _ _ _ er4 hF (fr_rc (ha) ea4) (hx1)
  rcases fr_if hyp with ⟨q, hyp⟩ | ⟨q, hyp⟩
  · obtain ⟨q33, hyp⟩ := md_ifs hyp
    cases hyp
    exact f4
  · obtain ⟨a7, ea7, hyp⟩ := md_bd hyp
    obtain ⟨r7, er7, hyp⟩ := md_bd hyp
    have f7 := a_Ln_sign er7 f4 (fr_rc (hx1) ea7) 
    obtain ⟨r10, er10, hyp⟩ := md_bd hyp
    have f10 := a_GC_isComparison er10 f7 
    rcases fr_if hyp with ⟨q, hyp⟩ | ⟨q, hyp⟩
    · obtain ⟨q31, hyp⟩ := md_ifs hyp
      cases hyp
      exact f10
    · obtain ⟨g14, eg14, hyp⟩ := md_bd hyp
      obtain ⟨h17, eh17, hyp⟩ := md_bd hyp
      have hF17 : fr_H b h0 h17 := fr_pf f10 (hx1) fr_vi eh17
      obtain ⟨a21, ea21, hyp⟩ := md_bd hyp
      obtain ⟨r21, er21, hyp⟩ := md_bd hyp
      have f21 := a_Rd_readSumR 6 _ _ _ _ _ er21 hF17 (fr_rc (ha) ea21) (hx1)
      rcases fr_if hyp with ⟨q, hyp⟩ | ⟨q, hyp⟩
      · exact a_Rd_readComparison_57 ha hyp f21
      · obtain ⟨a26, ea26, hyp⟩ := md_bd hyp
        obtain ⟨r26, er26, hyp⟩ := md_bd hyp
        have f26 := a_Rd_addStep er26 f21 (fr_rc (ha) ea26) 
        rcases fr_if hyp with ⟨q, hyp⟩ | ⟨q, hyp⟩
        · exact a_Rd_readComparison_57 ha hyp f26
        · exact a_Rd_readComparison_58 ha hyp f26
theorem a_Rd_readComparison {b N : Nat} {C : Nat × Nat} {h0 : ag_H} {a : Nat} {p1 : Option Nat} {h : ag_H} {res : (Int32) × ag_H} (hyp : fn_Rd_readComparison N C a p1 h = some res) (hF : fr_H b h0 h) (ha : fr_ok b (some a)) (hp1 : fr_ok b p1) : fr_H b h0 res.2 := a_Rd_readComparison_0 ha hyp hF hp1
theorem a_Rd_readBody_75 {b N : Nat} {C : Nat × Nat} {h0 : ag_H} {a : Nat} (ha : fr_ok b (some a)) : ∀ (n : Nat) (res : (Int32) × ag_H) (x1 : Option Nat) (x3 : Int32) (h : ag_H) , fn_Rd_readBody_75 N C a n x1 x3 h = some res → fr_H b h0 h → fr_ok b x1 → fr_H b h0 res.2 := by
  intro n
  induction n with
  | zero =>
    intro res x1 x3 h hyp
    cases hyp
  | succ n ih =>
    intro res x1 x3 h hyp hF hx1
    rw [fe_Rd_readBody_75] at hyp
    rcases fr_if hyp with ⟨q, hyp⟩ | ⟨q, hyp⟩
    · obtain ⟨q5, hyp⟩ := md_ifs hyp
      cases hyp
      exact hF
    · obtain ⟨a8, ea8, hyp⟩ := md_bd hyp
      obtain ⟨r8, er8, hyp⟩ := md_bd hyp
      have f8 := a_Rd_readComparison er8 hF (fr_rc (ha) ea8) (hx1)
      rcases fr_if hyp with ⟨q, hyp⟩ | ⟨q, hyp⟩
      · obtain ⟨q19, hyp⟩ := md_ifs hyp
        cases hyp
        exact f8
      · obtain ⟨a12, ea12, hyp⟩ := md_bd hyp
        obtain ⟨r12, er12, hyp⟩ := md_bd hyp
        have f12 := a_Ln_takes er12 f8 (fr_rc (hx1) ea12) 
        rcases fr_if hyp with ⟨q, hyp⟩ | ⟨q, hyp⟩
        · obtain ⟨q17, hyp⟩ := md_ifs hyp
          cases hyp
          exact f12
        · exact ih _ _ _ _ hyp f12 (hx1)
theorem a_Rd_readBody_73 {b N : Nat} {C : Nat × Nat} {h0 : ag_H} {a : Nat} (ha : fr_ok b (some a)) {x1 : Option Nat} {h : ag_H} {res : (Int32) × ag_H} (hyp : fn_Rd_readBody_73 N C a x1 h = some res) (hF : fr_H b h0 h) (hx1 : fr_ok b x1) : fr_H b h0 res.2 := by
  unfold fn_Rd_readBody_73 at hyp
  exact a_Rd_readBody_75 ha N _ _ _ _ hyp hF (hx1)
theorem a_Rd_readBody_2 {b N : Nat} {C : Nat × Nat} {h0 : ag_H} {a : Nat} (ha : fr_ok b (some a)) : ∀ (n : Nat) (res : (Int32) × ag_H) (x1 : Option Nat) (x2 : Option Nat) (x3 : Int32) (h : ag_H) , fn_Rd_readBody_2 N C a n x1 x2 x3 h = some res → fr_H b h0 h → fr_ok b x1 → fr_ok b x2 → fr_H b h0 res.2 := by
  intro n
  induction n with
  | zero =>
    intro res x1 x2 x3 h hyp
    cases hyp
  | succ n ih =>
    intro res x1 x2 x3 h hyp hF hx1 hx2
    rw [fe_Rd_readBody_2] at hyp
    rcases fr_if hyp with ⟨q, hyp⟩ | ⟨q, hyp⟩
    · exact a_Rd_readBody_73 ha hyp hF (hx1)
    · obtain ⟨r5, er5, hyp⟩ := md_bd hyp
      have f5 := a_Rd_readAtom er5 hF (hx1)
      rcases fr_if hyp with ⟨q, hyp⟩ | ⟨q, hyp⟩
      · obtain ⟨q34, hyp⟩ := md_ifs hyp
        cases hyp
        exact f5.1
      · obtain ⟨a11, ea11, hyp⟩ := md_bd hyp
        obtain ⟨r11, er11, hyp⟩ := md_bd hyp
        have f11 := a_AL_add er11 f5.1 (fr_rc (hx2) ea11) (f5.2)
        obtain ⟨g15, eg15, hyp⟩ := md_bd hyp
        obtain ⟨a17, ea17, hyp⟩ := md_bd hyp
        obtain ⟨r17, er17, hyp⟩ := md_bd hyp
        have f17 := a_At_variables er17 f11 (fr_rc (f5.2) ea17) 
        obtain ⟨h19, eh19, hyp⟩ := md_bd hyp
        have hF19 : fr_H b h0 h19 := fr_pf f17 (ha) fr_vi eh19
        obtain ⟨a22, ea22, hyp⟩ := md_bd hyp
        obtain ⟨r22, er22, hyp⟩ := md_bd hyp
        have f22 := a_Ln_takes er22 hF19 (fr_rc (hx1) ea22) 
        rcases fr_if hyp with ⟨q, hyp⟩ | ⟨q, hyp⟩
        · obtain ⟨q32, hyp⟩ := md_ifs hyp
          cases hyp
          exact f22
        · obtain ⟨a25, ea25, hyp⟩ := md_bd hyp
          obtain ⟨r25, er25, hyp⟩ := md_bd hyp
          have f25 := a_Ln_sign er25 f22 (fr_rc (hx1) ea25) 
          obtain ⟨r26, er26, hyp⟩ := md_bd hyp
          have f26 := a_Rd_isName er26 f25 
          rcases fr_if hyp with ⟨q, hyp⟩ | ⟨q, hyp⟩
          · exact a_Rd_readBody_73 ha hyp f26 (hx1)
          · exact ih _ _ _ _ _ hyp f26 (hx1) (hx2)
theorem a_Rd_readBody_0 {b N : Nat} {C : Nat × Nat} {h0 : ag_H} {a : Nat} (ha : fr_ok b (some a)) {x1 : Option Nat} {x2 : Option Nat} {h : ag_H} {res : (Int32) × ag_H} (hyp : fn_Rd_readBody_0 N C a x1 x2 h = some res) (hF : fr_H b h0 h) (hx1 : fr_ok b x1) (hx2 : fr_ok b x2) : fr_H b h0 res.2 := by
  unfold fn_Rd_readBody_0 at hyp
  exact a_Rd_readBody_2 ha N _ _ _ _ _ hyp hF (hx1) (hx2)
theorem a_Rd_readBody {b N : Nat} {C : Nat × Nat} {h0 : ag_H} {a : Nat} {p1 : Option Nat} {p2 : Option Nat} {h : ag_H} {res : (Int32) × ag_H} (hyp : fn_Rd_readBody N C a p1 p2 h = some res) (hF : fr_H b h0 h) (ha : fr_ok b (some a)) (hp1 : fr_ok b p1) (hp2 : fr_ok b p2) : fr_H b h0 res.2 := a_Rd_readBody_0 ha hyp hF hp1 hp2
theorem a_Ar_copyOf3_0 {b N : Nat} {C : Nat × Nat} {h0 : ag_H} {x0 : Option Nat} {x1 : Int32} {h : ag_H} {res : (Option Nat) × ag_H} (hyp : fn_Ar_copyOf3_0 N C x0 x1 h = some res) (hF : fr_H b h0 h) (hx0 : fr_ok b x0) : fr_H b h0 res.2 ∧ fr_ok b res.1 := by
  unfold fn_Ar_copyOf3_0 at hyp
  obtain ⟨g3, eg3, hyp⟩ := md_bd hyp
  rcases fr_if hyp with ⟨q, hyp⟩ | ⟨q, hyp⟩
  · cases hyp
  · obtain ⟨q6, hyp⟩ := md_ifs hyp
    have hF6 : fr_H b h0 (ag_nw h (x1).toNatClampNeg (.inl (0, (x1).toNatClampNeg, .inl (fun _ => 0)))) := fr_nw hF trivial
    obtain ⟨g13, eg13, hyp⟩ := md_bd hyp
    obtain ⟨h16, eh16, hyp⟩ := md_bd hyp
    have hF16 : fr_H b h0 h16 := fr_cpi hF6 (fr_new hF) eh16
    cases hyp
    exact ⟨hF16, fr_new hF⟩
theorem a_Ar_copyOf3 {b N : Nat} {C : Nat × Nat} {h0 : ag_H} {p0 : Option Nat} {p1 : Int32} {h : ag_H} {res : (Option Nat) × ag_H} (hyp : fn_Ar_copyOf3 N C p0 p1 h = some res) (hF : fr_H b h0 h) (hp0 : fr_ok b p0) : fr_H b h0 res.2 ∧ fr_ok b res.1 := a_Ar_copyOf3_0 hyp hF hp0
theorem a_Cl_init_0 {b N : Nat} {C : Nat × Nat} {h0 : ag_H} {a : Nat} (ha : fr_ok b (some a)) {x1 : Int32} {x2 : Int32} {x3 : Option Nat} {x4 : Option Nat} {x5 : Option Nat} {h : ag_H} {res : (Int32) × ag_H} (hyp : fn_Cl_init_0 N C a x1 x2 x3 x4 x5 h = some res) (hF : fr_H b h0 h) (hx3 : fr_ok b x3) (hx4 : fr_ok b x4) (hx5 : fr_ok b x5) : fr_H b h0 res.2 := by
  unfold fn_Cl_init_0 at hyp
  obtain ⟨h5, eh5, hyp⟩ := md_bd hyp
  have hF5 : fr_H b h0 h5 := fr_pf hF (ha) fr_vi eh5
  obtain ⟨h8, eh8, hyp⟩ := md_bd hyp
  have hF8 : fr_H b h0 h8 := fr_pf hF5 (ha) fr_vi eh8
  obtain ⟨h11, eh11, hyp⟩ := md_bd hyp
  have hF11 : fr_H b h0 h11 := fr_pf hF8 (ha) (fr_vr (r := (x3)) (hx3)) eh11
  obtain ⟨h14, eh14, hyp⟩ := md_bd hyp
  have hF14 : fr_H b h0 h14 := fr_pf hF11 (ha) (fr_vr (r := (x4)) (hx4)) eh14
  obtain ⟨h17, eh17, hyp⟩ := md_bd hyp
  have hF17 : fr_H b h0 h17 := fr_pf hF14 (ha) (fr_vr (r := (x5)) (hx5)) eh17
  cases hyp
  exact hF17
theorem a_Cl_init {b N : Nat} {C : Nat × Nat} {h0 : ag_H} {a : Nat} {p1 : Int32} {p2 : Int32} {p3 : Option Nat} {p4 : Option Nat} {p5 : Option Nat} {h : ag_H} {res : (Int32) × ag_H} (hyp : fn_Cl_init N C a p1 p2 p3 p4 p5 h = some res) (hF : fr_H b h0 h) (ha : fr_ok b (some a)) (hp3 : fr_ok b p3) (hp4 : fr_ok b p4) (hp5 : fr_ok b p5) : fr_H b h0 res.2 := a_Cl_init_0 ha hyp hF hp3 hp4 hp5
