/-! frame: Ln_isAtLastStar, Rd_readProduct, Rd_readSum, GC_isComparison, Rd_readComparison, Rd_readBody, Ar_copyOf3, Cl_init, Rd_read, GC_moveLine, GC_clause -/
theorem a_Ln_isAtLastStar_18 {b N : Nat} {C : Nat × Nat} {h0 : ag_H} {a : Nat} (ha : fr_ok b (some a)) : ∀ (n : Nat) (res : (Int32) × ag_H) (x1 : Int32) (h : ag_H) , fn_Ln_isAtLastStar_18 N C a n x1 h = some res → fr_H b h0 h → fr_H b h0 res.2 := by
  intro n
  induction n with
  | zero =>
    intro res x1 h hyp
    cases hyp
  | succ n ih =>
    intro res x1 h hyp hF 
    rw [fe_Ln_isAtLastStar_18] at hyp
    obtain ⟨g3, eg3, hyp⟩ := md_bd hyp
    rcases fr_if hyp with ⟨q, hyp⟩ | ⟨q, hyp⟩
    · obtain ⟨q6, hyp⟩ := md_ifs hyp
      cases hyp
      exact hF
    · obtain ⟨g8, eg8, hyp⟩ := md_bd hyp
      obtain ⟨p10, ep10, hyp⟩ := md_bd hyp
      obtain ⟨q10, hyp⟩ := md_ifs hyp
      rcases fr_if hyp with ⟨q, hyp⟩ | ⟨q, hyp⟩
      · exact ih _ _ _ hyp hF
      · obtain ⟨q16, hyp⟩ := md_ifs hyp
        cases hyp
        exact hF
theorem a_Ln_isAtLastStar_0 {b N : Nat} {C : Nat × Nat} {h0 : ag_H} {a : Nat} (ha : fr_ok b (some a)) {h : ag_H} {res : (Int32) × ag_H} (hyp : fn_Ln_isAtLastStar_0 N C a h = some res) (hF : fr_H b h0 h) : fr_H b h0 res.2 := by
  unfold fn_Ln_isAtLastStar_0 at hyp
  obtain ⟨a2, ea2, hyp⟩ := md_bd hyp
  obtain ⟨r2, er2, hyp⟩ := md_bd hyp
  have f2 := a_Ln_sign er2 hF (fr_rc (ha) ea2) 
  rcases fr_if hyp with ⟨q, hyp⟩ | ⟨q, hyp⟩
  · obtain ⟨g6, eg6, hyp⟩ := md_bd hyp
    exact a_Ln_isAtLastStar_18 ha N _ _ _ hyp f2 
  · obtain ⟨q11, hyp⟩ := md_ifs hyp
    cases hyp
    exact f2
theorem a_Ln_isAtLastStar {b N : Nat} {C : Nat × Nat} {h0 : ag_H} {a : Nat} {h : ag_H} {res : (Int32) × ag_H} (hyp : fn_Ln_isAtLastStar N C a h = some res) (hF : fr_H b h0 h) (ha : fr_ok b (some a)) : fr_H b h0 res.2 := a_Ln_isAtLastStar_0 ha hyp hF 
theorem a_Rd_readProduct_98 {b N : Nat} {C : Nat × Nat} {h0 : ag_H} {a : Nat} (ha : fr_ok b (some a)) {kR : Nat → Option Nat → Int32 → ag_H → Option ((Int32) × ag_H)} (hkR : ∀ (ua : Nat) (u0 : Option Nat) (u1 : Int32) (hh : ag_H) (res : (Int32) × ag_H), kR ua u0 u1 hh = some res → fr_H b h0 hh → fr_ok b (some ua) → fr_ok b u0 → fr_H b h0 res.2) {x3 : Int32} {h : ag_H} {res : (Int32) × ag_H} (hyp : fn_Rd_readProduct_98 N C kR a x3 h = some res) (hF : fr_H b h0 h) : fr_H b h0 res.2 := by
  unfold fn_Rd_readProduct_98 at hyp
  obtain ⟨q2, hyp⟩ := md_ifs hyp
  cases hyp
  exact hF
theorem a_Rd_readProduct_91 {b N : Nat} {C : Nat × Nat} {h0 : ag_H} {a : Nat} (ha : fr_ok b (some a)) {kR : Nat → Option Nat → Int32 → ag_H → Option ((Int32) × ag_H)} (hkR : ∀ (ua : Nat) (u0 : Option Nat) (u1 : Int32) (hh : ag_H) (res : (Int32) × ag_H), kR ua u0 u1 hh = some res → fr_H b h0 hh → fr_ok b (some ua) → fr_ok b u0 → fr_H b h0 res.2) {k10 : Option Nat → Int32 → Int32 → Int32 → ag_H → Option ((Int32) × ag_H)} (hk10 : ∀ (res : (Int32) × ag_H) (y1 : Option Nat) (y2 : Int32) (y3 : Int32) (y4 : Int32) (hh : ag_H), k10 y1 y2 y3 y4 hh = some res → fr_H b h0 hh → fr_ok b y1 → fr_H b h0 res.2) {x1 : Option Nat} {x2 : Int32} {x4 : Int32} {s0 : Int32} {h : ag_H} {res : (Int32) × ag_H} (hyp : fn_Rd_readProduct_91 N C kR a k10 x1 x2 x4 s0 h = some res) (hF : fr_H b h0 h) (hx1 : fr_ok b x1) : fr_H b h0 res.2 := by
  unfold fn_Rd_readProduct_91 at hyp
  exact hk10 _ _ _ _ _ _ hyp hF (hx1)
theorem a_Rd_readProduct_90 {b N : Nat} {C : Nat × Nat} {h0 : ag_H} {a : Nat} (ha : fr_ok b (some a)) {kR : Nat → Option Nat → Int32 → ag_H → Option ((Int32) × ag_H)} (hkR : ∀ (ua : Nat) (u0 : Option Nat) (u1 : Int32) (hh : ag_H) (res : (Int32) × ag_H), kR ua u0 u1 hh = some res → fr_H b h0 hh → fr_ok b (some ua) → fr_ok b u0 → fr_H b h0 res.2) {k10 : Option Nat → Int32 → Int32 → Int32 → ag_H → Option ((Int32) × ag_H)} (hk10 : ∀ (res : (Int32) × ag_H) (y1 : Option Nat) (y2 : Int32) (y3 : Int32) (y4 : Int32) (hh : ag_H), k10 y1 y2 y3 y4 hh = some res → fr_H b h0 hh → fr_ok b y1 → fr_H b h0 res.2) {x1 : Option Nat} {x2 : Int32} {x4 : Int32} {h : ag_H} {res : (Int32) × ag_H} (hyp : fn_Rd_readProduct_90 N C kR a k10 x1 x2 x4 h = some res) (hF : fr_H b h0 h) (hx1 : fr_ok b x1) : fr_H b h0 res.2 := by
  unfold fn_Rd_readProduct_90 at hyp
  exact a_Rd_readProduct_91 ha hkR hk10 hyp hF (hx1)
theorem a_Rd_readProduct_57 {b N : Nat} {C : Nat × Nat} {h0 : ag_H} {a : Nat} (ha : fr_ok b (some a)) {kR : Nat → Option Nat → Int32 → ag_H → Option ((Int32) × ag_H)} (hkR : ∀ (ua : Nat) (u0 : Option Nat) (u1 : Int32) (hh : ag_H) (res : (Int32) × ag_H), kR ua u0 u1 hh = some res → fr_H b h0 hh → fr_ok b (some ua) → fr_ok b u0 → fr_H b h0 res.2) {k10 : Option Nat → Int32 → Int32 → Int32 → ag_H → Option ((Int32) × ag_H)} (hk10 : ∀ (res : (Int32) × ag_H) (y1 : Option Nat) (y2 : Int32) (y3 : Int32) (y4 : Int32) (hh : ag_H), k10 y1 y2 y3 y4 hh = some res → fr_H b h0 hh → fr_ok b y1 → fr_H b h0 res.2) {x1 : Option Nat} {x2 : Int32} {x3 : Int32} {x4 : Int32} {s0 : Int32} {h : ag_H} {res : (Int32) × ag_H} (hyp : fn_Rd_readProduct_57 N C kR a k10 x1 x2 x3 x4 s0 h = some res) (hF : fr_H b h0 h) (hx1 : fr_ok b x1) : fr_H b h0 res.2 := by
  unfold fn_Rd_readProduct_57 at hyp
  rcases fr_if hyp with ⟨q, hyp⟩ | ⟨q, hyp⟩
  · exact a_Rd_readProduct_98 ha hkR hyp hF
  · obtain ⟨a7, ea7, hyp⟩ := md_bd hyp
    obtain ⟨r7, er7, hyp⟩ := md_bd hyp
    have f7 := a_Rd_readFactor hkR er7 hF (fr_rc (ha) ea7) (hx1)
    rcases fr_if hyp with ⟨q, hyp⟩ | ⟨q, hyp⟩
    · exact a_Rd_readProduct_90 ha hkR hk10 hyp f7 (hx1)
    · obtain ⟨a12, ea12, hyp⟩ := md_bd hyp
      obtain ⟨r12, er12, hyp⟩ := md_bd hyp
      have f12 := a_Rd_addStep er12 f7 (fr_rc (ha) ea12) 
      rcases fr_if hyp with ⟨q, hyp⟩ | ⟨q, hyp⟩
      · exact a_Rd_readProduct_90 ha hkR hk10 hyp f12 (hx1)
      · exact a_Rd_readProduct_91 ha hkR hk10 hyp f12 (hx1)
theorem a_Rd_readProduct_10 {b N : Nat} {C : Nat × Nat} {h0 : ag_H} {a : Nat} (ha : fr_ok b (some a)) {kR : Nat → Option Nat → Int32 → ag_H → Option ((Int32) × ag_H)} (hkR : ∀ (ua : Nat) (u0 : Option Nat) (u1 : Int32) (hh : ag_H) (res : (Int32) × ag_H), kR ua u0 u1 hh = some res → fr_H b h0 hh → fr_ok b (some ua) → fr_ok b u0 → fr_H b h0 res.2) : ∀ (n : Nat) (res : (Int32) × ag_H) (x1 : Option Nat) (x2 : Int32) (x3 : Int32) (x4 : Int32) (h : ag_H) , fn_Rd_readProduct_10 N C kR a n x1 x2 x3 x4 h = some res → fr_H b h0 h → fr_ok b x1 → fr_H b h0 res.2 := by
  intro n
  induction n with
  | zero =>
    intro res x1 x2 x3 x4 h hyp
    cases hyp
  | succ n ih =>
    intro res x1 x2 x3 x4 h hyp hF hx1
    rw [fe_Rd_readProduct_10] at hyp
    rcases fr_if hyp with ⟨q, hyp⟩ | ⟨q, hyp⟩
    · exact a_Rd_readProduct_98 ha hkR hyp hF
    · rcases fr_if hyp with ⟨q, hyp⟩ | ⟨q, hyp⟩
      · exact a_Rd_readProduct_98 ha hkR hyp hF
      · obtain ⟨a7, ea7, hyp⟩ := md_bd hyp
        obtain ⟨r7, er7, hyp⟩ := md_bd hyp
        have f7 := a_Ln_isAtLastStar er7 hF (fr_rc (hx1) ea7) 
        rcases fr_if hyp with ⟨q, hyp⟩ | ⟨q, hyp⟩
        · obtain ⟨a11, ea11, hyp⟩ := md_bd hyp
          obtain ⟨r11, er11, hyp⟩ := md_bd hyp
          have f11 := a_Ln_takes er11 f7 (fr_rc (hx1) ea11) 
          rcases fr_if hyp with ⟨q, hyp⟩ | ⟨q, hyp⟩
          · obtain ⟨a15, ea15, hyp⟩ := md_bd hyp
            obtain ⟨r15, er15, hyp⟩ := md_bd hyp
            have f15 := a_Ln_takes er15 f11 (fr_rc (hx1) ea15) 
            rcases fr_if hyp with ⟨q, hyp⟩ | ⟨q, hyp⟩
            · exact a_Rd_readProduct_57 ha hkR ih hyp f15 (hx1)
            · exact a_Rd_readProduct_57 ha hkR ih hyp f15 (hx1)
          · exact a_Rd_readProduct_57 ha hkR ih hyp f11 (hx1)
        · exact a_Rd_readProduct_98 ha hkR hyp f7
theorem a_Rd_readProduct_0 {b N : Nat} {C : Nat × Nat} {h0 : ag_H} {a : Nat} (ha : fr_ok b (some a)) {kR : Nat → Option Nat → Int32 → ag_H → Option ((Int32) × ag_H)} (hkR : ∀ (ua : Nat) (u0 : Option Nat) (u1 : Int32) (hh : ag_H) (res : (Int32) × ag_H), kR ua u0 u1 hh = some res → fr_H b h0 hh → fr_ok b (some ua) → fr_ok b u0 → fr_H b h0 res.2) {x1 : Option Nat} {x2 : Int32} {h : ag_H} {res : (Int32) × ag_H} (hyp : fn_Rd_readProduct_0 N C kR a x1 x2 h = some res) (hF : fr_H b h0 h) (hx1 : fr_ok b x1) : fr_H b h0 res.2 := by
  unfold fn_Rd_readProduct_0 at hyp
  obtain ⟨a4, ea4, hyp⟩ := md_bd hyp
  obtain ⟨r4, er4, hyp⟩ := md_bd hyp
  have f4 := a_Rd_readFactor hkR er4 hF (fr_rc (ha) ea4) (hx1)
  exact a_Rd_readProduct_10 ha hkR N _ _ _ _ _ _ hyp f4 (hx1)
theorem a_Rd_readProduct {b N : Nat} {C : Nat × Nat} {h0 : ag_H} {kR : Nat → Option Nat → Int32 → ag_H → Option ((Int32) × ag_H)} (hkR : ∀ (ua : Nat) (u0 : Option Nat) (u1 : Int32) (hh : ag_H) (res : (Int32) × ag_H), kR ua u0 u1 hh = some res → fr_H b h0 hh → fr_ok b (some ua) → fr_ok b u0 → fr_H b h0 res.2) {a : Nat} {p1 : Option Nat} {p2 : Int32} {h : ag_H} {res : (Int32) × ag_H} (hyp : fn_Rd_readProduct N C kR a p1 p2 h = some res) (hF : fr_H b h0 h) (ha : fr_ok b (some a)) (hp1 : fr_ok b p1) : fr_H b h0 res.2 := a_Rd_readProduct_0 ha hkR hyp hF hp1
theorem a_Rd_readSum_91 {b N : Nat} {C : Nat × Nat} {h0 : ag_H} {a : Nat} (ha : fr_ok b (some a)) {kR : Nat → Option Nat → Int32 → ag_H → Option ((Int32) × ag_H)} (hkR : ∀ (ua : Nat) (u0 : Option Nat) (u1 : Int32) (hh : ag_H) (res : (Int32) × ag_H), kR ua u0 u1 hh = some res → fr_H b h0 hh → fr_ok b (some ua) → fr_ok b u0 → fr_H b h0 res.2) {x3 : Int32} {h : ag_H} {res : (Int32) × ag_H} (hyp : fn_Rd_readSum_91 N C kR a x3 h = some res) (hF : fr_H b h0 h) : fr_H b h0 res.2 := by
  unfold fn_Rd_readSum_91 at hyp
  obtain ⟨q2, hyp⟩ := md_ifs hyp
  cases hyp
  exact hF
theorem a_Rd_readSum_84 {b N : Nat} {C : Nat × Nat} {h0 : ag_H} {a : Nat} (ha : fr_ok b (some a)) {kR : Nat → Option Nat → Int32 → ag_H → Option ((Int32) × ag_H)} (hkR : ∀ (ua : Nat) (u0 : Option Nat) (u1 : Int32) (hh : ag_H) (res : (Int32) × ag_H), kR ua u0 u1 hh = some res → fr_H b h0 hh → fr_ok b (some ua) → fr_ok b u0 → fr_H b h0 res.2) {k10 : Option Nat → Int32 → Int32 → Int32 → ag_H → Option ((Int32) × ag_H)} (hk10 : ∀ (res : (Int32) × ag_H) (y1 : Option Nat) (y2 : Int32) (y3 : Int32) (y4 : Int32) (hh : ag_H), k10 y1 y2 y3 y4 hh = some res → fr_H b h0 hh → fr_ok b y1 → fr_H b h0 res.2) {x1 : Option Nat} {x2 : Int32} {x4 : Int32} {s0 : Int32} {h : ag_H} {res : (Int32) × ag_H} (hyp : fn_Rd_readSum_84 N C kR a k10 x1 x2 x4 s0 h = some res) (hF : fr_H b h0 h) (hx1 : fr_ok b x1) : fr_H b h0 res.2 := by
  unfold fn_Rd_readSum_84 at hyp
  exact hk10 _ _ _ _ _ _ hyp hF (hx1)
theorem a_Rd_readSum_83 {b N : Nat} {C : Nat × Nat} {h0 : ag_H} {a : Nat} (ha : fr_ok b (some a)) {kR : Nat → Option Nat → Int32 → ag_H → Option ((Int32) × ag_H)} (hkR : ∀ (ua : Nat) (u0 : Option Nat) (u1 : Int32) (hh : ag_H) (res : (Int32) × ag_H), kR ua u0 u1 hh = some res → fr_H b h0 hh → fr_ok b (some ua) → fr_ok b u0 → fr_H b h0 res.2) {k10 : Option Nat → Int32 → Int32 → Int32 → ag_H → Option ((Int32) × ag_H)} (hk10 : ∀ (res : (Int32) × ag_H) (y1 : Option Nat) (y2 : Int32) (y3 : Int32) (y4 : Int32) (hh : ag_H), k10 y1 y2 y3 y4 hh = some res → fr_H b h0 hh → fr_ok b y1 → fr_H b h0 res.2) {x1 : Option Nat} {x2 : Int32} {x4 : Int32} {h : ag_H} {res : (Int32) × ag_H} (hyp : fn_Rd_readSum_83 N C kR a k10 x1 x2 x4 h = some res) (hF : fr_H b h0 h) (hx1 : fr_ok b x1) : fr_H b h0 res.2 := by
  unfold fn_Rd_readSum_83 at hyp
  exact a_Rd_readSum_84 ha hkR hk10 hyp hF (hx1)
theorem a_Rd_readSum_50 {b N : Nat} {C : Nat × Nat} {h0 : ag_H} {a : Nat} (ha : fr_ok b (some a)) {kR : Nat → Option Nat → Int32 → ag_H → Option ((Int32) × ag_H)} (hkR : ∀ (ua : Nat) (u0 : Option Nat) (u1 : Int32) (hh : ag_H) (res : (Int32) × ag_H), kR ua u0 u1 hh = some res → fr_H b h0 hh → fr_ok b (some ua) → fr_ok b u0 → fr_H b h0 res.2) {k10 : Option Nat → Int32 → Int32 → Int32 → ag_H → Option ((Int32) × ag_H)} (hk10 : ∀ (res : (Int32) × ag_H) (y1 : Option Nat) (y2 : Int32) (y3 : Int32) (y4 : Int32) (hh : ag_H), k10 y1 y2 y3 y4 hh = some res → fr_H b h0 hh → fr_ok b y1 → fr_H b h0 res.2) {x1 : Option Nat} {x2 : Int32} {x3 : Int32} {x4 : Int32} {s0 : Int32} {h : ag_H} {res : (Int32) × ag_H} (hyp : fn_Rd_readSum_50 N C kR a k10 x1 x2 x3 x4 s0 h = some res) (hF : fr_H b h0 h) (hx1 : fr_ok b x1) : fr_H b h0 res.2 := by
  unfold fn_Rd_readSum_50 at hyp
  rcases fr_if hyp with ⟨q, hyp⟩ | ⟨q, hyp⟩
  · exact a_Rd_readSum_91 ha hkR hyp hF
  · obtain ⟨a7, ea7, hyp⟩ := md_bd hyp
    obtain ⟨r7, er7, hyp⟩ := md_bd hyp
    have f7 := a_Rd_readProduct hkR er7 hF (fr_rc (ha) ea7) (hx1)
    rcases fr_if hyp with ⟨q, hyp⟩ | ⟨q, hyp⟩
    · exact a_Rd_readSum_83 ha hkR hk10 hyp f7 (hx1)
    · obtain ⟨a12, ea12, hyp⟩ := md_bd hyp
      obtain ⟨r12, er12, hyp⟩ := md_bd hyp
      have f12 := a_Rd_addStep er12 f7 (fr_rc (ha) ea12) 
      rcases fr_if hyp with ⟨q, hyp⟩ | ⟨q, hyp⟩
      · exact a_Rd_readSum_83 ha hkR hk10 hyp f12 (hx1)
      · exact a_Rd_readSum_84 ha hkR hk10 hyp f12 (hx1)
theorem a_Rd_readSum_10 {b N : Nat} {C : Nat × Nat} {h0 : ag_H} {a : Nat} (ha : fr_ok b (some a)) {kR : Nat → Option Nat → Int32 → ag_H → Option ((Int32) × ag_H)} (hkR : ∀ (ua : Nat) (u0 : Option Nat) (u1 : Int32) (hh : ag_H) (res : (Int32) × ag_H), kR ua u0 u1 hh = some res → fr_H b h0 hh → fr_ok b (some ua) → fr_ok b u0 → fr_H b h0 res.2) : ∀ (n : Nat) (res : (Int32) × ag_H) (x1 : Option Nat) (x2 : Int32) (x3 : Int32) (x4 : Int32) (h : ag_H) , fn_Rd_readSum_10 N C kR a n x1 x2 x3 x4 h = some res → fr_H b h0 h → fr_ok b x1 → fr_H b h0 res.2 := by
  intro n
  induction n with
  | zero =>
    intro res x1 x2 x3 x4 h hyp
    cases hyp
  | succ n ih =>
    intro res x1 x2 x3 x4 h hyp hF hx1
    rw [fe_Rd_readSum_10] at hyp
    rcases fr_if hyp with ⟨q, hyp⟩ | ⟨q, hyp⟩
    · exact a_Rd_readSum_91 ha hkR hyp hF
    · rcases fr_if hyp with ⟨q, hyp⟩ | ⟨q, hyp⟩
      · exact a_Rd_readSum_91 ha hkR hyp hF
      · obtain ⟨a8, ea8, hyp⟩ := md_bd hyp
        obtain ⟨r8, er8, hyp⟩ := md_bd hyp
        have f8 := a_Ln_takes er8 hF (fr_rc (hx1) ea8) 
        rcases fr_if hyp with ⟨q, hyp⟩ | ⟨q, hyp⟩
        · obtain ⟨a12, ea12, hyp⟩ := md_bd hyp
          obtain ⟨r12, er12, hyp⟩ := md_bd hyp
          have f12 := a_Ln_takes er12 f8 (fr_rc (hx1) ea12) 
          rcases fr_if hyp with ⟨q, hyp⟩ | ⟨q, hyp⟩
          · exact a_Rd_readSum_50 ha hkR ih hyp f12 (hx1)
          · exact a_Rd_readSum_50 ha hkR ih hyp f12 (hx1)
        · exact a_Rd_readSum_50 ha hkR ih hyp f8 (hx1)
theorem a_Rd_readSum_0 {b N : Nat} {C : Nat × Nat} {h0 : ag_H} {a : Nat} (ha : fr_ok b (some a)) {kR : Nat → Option Nat → Int32 → ag_H → Option ((Int32) × ag_H)} (hkR : ∀ (ua : Nat) (u0 : Option Nat) (u1 : Int32) (hh : ag_H) (res : (Int32) × ag_H), kR ua u0 u1 hh = some res → fr_H b h0 hh → fr_ok b (some ua) → fr_ok b u0 → fr_H b h0 res.2) {x1 : Option Nat} {x2 : Int32} {h : ag_H} {res : (Int32) × ag_H} (hyp : fn_Rd_readSum_0 N C kR a x1 x2 h = some res) (hF : fr_H b h0 h) (hx1 : fr_ok b x1) : fr_H b h0 res.2 := by
  unfold fn_Rd_readSum_0 at hyp
  obtain ⟨a4, ea4, hyp⟩ := md_bd hyp
  obtain ⟨r4, er4, hyp⟩ := md_bd hyp
  have f4 := a_Rd_readProduct hkR er4 hF (fr_rc (ha) ea4) (hx1)
  exact a_Rd_readSum_10 ha hkR N _ _ _ _ _ _ hyp f4 (hx1)
theorem a_Rd_readSum {b N : Nat} {C : Nat × Nat} {h0 : ag_H} {kR : Nat → Option Nat → Int32 → ag_H → Option ((Int32) × ag_H)} (hkR : ∀ (ua : Nat) (u0 : Option Nat) (u1 : Int32) (hh : ag_H) (res : (Int32) × ag_H), kR ua u0 u1 hh = some res → fr_H b h0 hh → fr_ok b (some ua) → fr_ok b u0 → fr_H b h0 res.2) {a : Nat} {p1 : Option Nat} {p2 : Int32} {h : ag_H} {res : (Int32) × ag_H} (hyp : fn_Rd_readSum N C kR a p1 p2 h = some res) (hF : fr_H b h0 h) (ha : fr_ok b (some a)) (hp1 : fr_ok b p1) : fr_H b h0 res.2 := a_Rd_readSum_0 ha hkR hyp hF hp1
theorem a_Rd_readSumR {b N : Nat} {C : Nat × Nat} {h0 : ag_H} : ∀ (n : Nat) (a : Nat) (p1 : Option Nat) (p2 : Int32) (h : ag_H) (res : (Int32) × ag_H), fn_Rd_readSumR N C n a p1 p2 h = some res → fr_H b h0 h → fr_ok b (some a) → fr_ok b p1 → fr_H b h0 res.2
  | 0, _, _, _, _, _, hyp, _, _, _ => by cases hyp
  | n + 1, a, p1, p2, h, res, hyp, hF, ha, hp1 => a_Rd_readSum (fun u0 u1 u2 u3 r hy => a_Rd_readSumR n u0 u1 u2 u3 r hy) hyp hF ha hp1
theorem a_GC_isComparison_29 {b N : Nat} {C : Nat × Nat} {h0 : ag_H} {s0 : Int32} {h : ag_H} {res : (Int32) × ag_H} (hyp : fn_GC_isComparison_29 N C s0 h = some res) (hF : fr_H b h0 h) : fr_H b h0 res.2 := by
  unfold fn_GC_isComparison_29 at hyp
  obtain ⟨q1, hyp⟩ := md_ifs hyp
  cases hyp
  exact hF
theorem a_GC_isComparison_24 {b N : Nat} {C : Nat × Nat} {h0 : ag_H} {h : ag_H} {res : (Int32) × ag_H} (hyp : fn_GC_isComparison_24 N C h = some res) (hF : fr_H b h0 h) : fr_H b h0 res.2 := by
  unfold fn_GC_isComparison_24 at hyp
  exact a_GC_isComparison_29 hyp hF 
theorem a_GC_isComparison_0 {b N : Nat} {C : Nat × Nat} {h0 : ag_H} {x0 : Int32} {h : ag_H} {res : (Int32) × ag_H} (hyp : fn_GC_isComparison_0 N C x0 h = some res) (hF : fr_H b h0 h) : fr_H b h0 res.2 := by
  unfold fn_GC_isComparison_0 at hyp
  rcases fr_if hyp with ⟨q, hyp⟩ | ⟨q, hyp⟩
  · exact a_GC_isComparison_24 hyp hF
  · rcases fr_if hyp with ⟨q, hyp⟩ | ⟨q, hyp⟩
    · exact a_GC_isComparison_24 hyp hF
    · rcases fr_if hyp with ⟨q, hyp⟩ | ⟨q, hyp⟩
      · exact a_GC_isComparison_24 hyp hF
      · rcases fr_if hyp with ⟨q, hyp⟩ | ⟨q, hyp⟩
        · exact a_GC_isComparison_24 hyp hF
        · exact a_GC_isComparison_29 hyp hF
theorem a_GC_isComparison {b N : Nat} {C : Nat × Nat} {h0 : ag_H} {p0 : Int32} {h : ag_H} {res : (Int32) × ag_H} (hyp : fn_GC_isComparison N C p0 h = some res) (hF : fr_H b h0 h) : fr_H b h0 res.2 := a_GC_isComparison_0 hyp hF 
theorem a_Rd_readComparison_58 {b N : Nat} {C : Nat × Nat} {h0 : ag_H} {a : Nat} (ha : fr_ok b (some a)) {s0 : Int32} {h : ag_H} {res : (Int32) × ag_H} (hyp : fn_Rd_readComparison_58 N C a s0 h = some res) (hF : fr_H b h0 h) : fr_H b h0 res.2 := by
  unfold fn_Rd_readComparison_58 at hyp
  obtain ⟨q1, hyp⟩ := md_ifs hyp
  cases hyp
  exact hF
theorem a_Rd_readComparison_57 {b N : Nat} {C : Nat × Nat} {h0 : ag_H} {a : Nat} (ha : fr_ok b (some a)) {h : ag_H} {res : (Int32) × ag_H} (hyp : fn_Rd_readComparison_57 N C a h = some res) (hF : fr_H b h0 h) : fr_H b h0 res.2 := by
  unfold fn_Rd_readComparison_57 at hyp
  exact a_Rd_readComparison_58 ha hyp hF 
theorem a_Rd_readComparison_0 {b N : Nat} {C : Nat × Nat} {h0 : ag_H} {a : Nat} (ha : fr_ok b (some a)) {x1 : Option Nat} {h : ag_H} {res : (Int32) × ag_H} (hyp : fn_Rd_readComparison_0 N C a x1 h = some res) (hF : fr_H b h0 h) (hx1 : fr_ok b x1) : fr_H b h0 res.2 := by
  unfold fn_Rd_readComparison_0 at hyp
  obtain ⟨a4, ea4, hyp⟩ := md_bd hyp
  obtain ⟨r4, er4, hyp⟩ := md_bd hyp
  have f4 := a_Rd_readSumR 6 _ _ _ _ _ er4 hF (fr_rc (ha) ea4) (hx1)
  rcases fr_if hyp with ⟨q, hyp⟩ | ⟨q, hyp⟩
  · obtain ⟨q33, hyp⟩ := md_ifs hyp
    cases hyp
    exact f4
  · obtain ⟨a7, ea7, hyp⟩ := md_bd hyp
    obtain ⟨r7, er7, hyp⟩ := md_bd hyp
    have f7 := a_Ln_sign er7 f4 (fr_rc (hx1) ea7) 
    obtain ⟨r10, er10, hyp⟩ := md_bd hyp
    have f10 := a_GC_isComparison er10 f7 
    rcases fr_if hyp with ⟨q, hyp⟩ | ⟨q, hyp⟩
    · obtain ⟨q31, hyp⟩ := md_ifs hyp
      cases hyp
      exact f10
    · obtain ⟨g14, eg14, hyp⟩ := md_bd hyp
      obtain ⟨h17, eh17, hyp⟩ := md_bd hyp
      have hF17 : fr_H b h0 h17 := fr_pf f10 (hx1) fr_vi eh17
      obtain ⟨a21, ea21, hyp⟩ := md_bd hyp
      obtain ⟨r21, er21, hyp⟩ := md_bd hyp
      have f21 := a_Rd_readSumR 6 _ _ _ _ _ er21 hF17 (fr_rc (ha) ea21) (hx1)
      rcases fr_if hyp with ⟨q, hyp⟩ | ⟨q, hyp⟩
      · exact a_Rd_readComparison_57 ha hyp f21
      · obtain ⟨a26, ea26, hyp⟩ := md_bd hyp
        obtain ⟨r26, er26, hyp⟩ := md_bd hyp
        have f26 := a_Rd_addStep er26 f21 (fr_rc (ha) ea26) 
        rcases fr_if hyp with ⟨q, hyp⟩ | ⟨q, hyp⟩
        · exact a_Rd_readComparison_57 ha hyp f26
        · exact a_Rd_readComparison_58 ha hyp f26
theorem a_Rd_readComparison {b N : Nat} {C : Nat × Nat} {h0 : ag_H} {a : Nat} {p1 : Option Nat} {h : ag_H} {res : (Int32) × ag_H} (hyp : fn_Rd_readComparison N C a p1 h = some res) (hF : fr_H b h0 h) (ha : fr_ok b (some a)) (hp1 : fr_ok b p1) : fr_H b h0 res.2 := a_Rd_readComparison_0 ha hyp hF hp1
theorem a_Rd_readBody_75 {b N : Nat} {C : Nat × Nat} {h0 : ag_H} {a : Nat} (ha : fr_ok b (some a)) : ∀ (n : Nat) (res : (Int32) × ag_H) (x1 : Option Nat) (x3 : Int32) (h : ag_H) , fn_Rd_readBody_75 N C a n x1 x3 h = some res → fr_H b h0 h → fr_ok b x1 → fr_H b h0 res.2 := by
  intro n
  induction n with
  | zero =>
    intro res x1 x3 h hyp
    cases hyp
  | succ n ih =>
    intro res x1 x3 h hyp hF hx1
    rw [fe_Rd_readBody_75] at hyp
    rcases fr_if hyp with ⟨q, hyp⟩ | ⟨q, hyp⟩
    · obtain ⟨q5, hyp⟩ := md_ifs hyp
      cases hyp
      exact hF
    · obtain ⟨a8, ea8, hyp⟩ := md_bd hyp
      obtain ⟨r8, er8, hyp⟩ := md_bd hyp
      have f8 := a_Rd_readComparison er8 hF (fr_rc (ha) ea8) (hx1)
      rcases fr_if hyp with ⟨q, hyp⟩ | ⟨q, hyp⟩
      · obtain ⟨q19, hyp⟩ := md_ifs hyp
        cases hyp
        exact f8
      · obtain ⟨a12, ea12, hyp⟩ := md_bd hyp
        obtain ⟨r12, er12, hyp⟩ := md_bd hyp
        have f12 := a_Ln_takes er12 f8 (fr_rc (hx1) ea12) 
        rcases fr_if hyp with ⟨q, hyp⟩ | ⟨q, hyp⟩
        · obtain ⟨q17, hyp⟩ := md_ifs hyp
          cases hyp
          exact f12
        · exact ih _ _ _ _ hyp f12 (hx1)
theorem a_Rd_readBody_73 {b N : Nat} {C : Nat × Nat} {h0 : ag_H} {a : Nat} (ha : fr_ok b (some a)) {x1 : Option Nat} {h : ag_H} {res : (Int32) × ag_H} (hyp : fn_Rd_readBody_73 N C a x1 h = some res) (hF : fr_H b h0 h) (hx1 : fr_ok b x1) : fr_H b h0 res.2 := by
  unfold fn_Rd_readBody_73 at hyp
  exact a_Rd_readBody_75 ha N _ _ _ _ hyp hF (hx1)
theorem a_Rd_readBody_2 {b N : Nat} {C : Nat × Nat} {h0 : ag_H} {a : Nat} (ha : fr_ok b (some a)) : ∀ (n : Nat) (res : (Int32) × ag_H) (x1 : Option Nat) (x2 : Option Nat) (x3 : Int32) (h : ag_H) , fn_Rd_readBody_2 N C a n x1 x2 x3 h = some res → fr_H b h0 h → fr_ok b x1 → fr_ok b x2 → fr_H b h0 res.2 := by
  intro n
  induction n with
  | zero =>
    intro res x1 x2 x3 h hyp
    cases hyp
  | succ n ih =>
    intro res x1 x2 x3 h hyp hF hx1 hx2
    rw [fe_Rd_readBody_2] at hyp
    rcases fr_if hyp with ⟨q, hyp⟩ | ⟨q, hyp⟩
    · exact a_Rd_readBody_73 ha hyp hF (hx1)
    · obtain ⟨r5, er5, hyp⟩ := md_bd hyp
      have f5 := a_Rd_readAtom er5 hF (hx1)
      rcases fr_if hyp with ⟨q, hyp⟩ | ⟨q, hyp⟩
      · obtain ⟨q34, hyp⟩ := md_ifs hyp
        cases hyp
        exact f5.1
      · obtain ⟨a11, ea11, hyp⟩ := md_bd hyp
        obtain ⟨r11, er11, hyp⟩ := md_bd hyp
        have f11 := a_AL_add er11 f5.1 (fr_rc (hx2) ea11) (f5.2)
        obtain ⟨g15, eg15, hyp⟩ := md_bd hyp
        obtain ⟨a17, ea17, hyp⟩ := md_bd hyp
        obtain ⟨r17, er17, hyp⟩ := md_bd hyp
        have f17 := a_At_variables er17 f11 (fr_rc (f5.2) ea17) 
        obtain ⟨h19, eh19, hyp⟩ := md_bd hyp
        have hF19 : fr_H b h0 h19 := fr_pf f17 (ha) fr_vi eh19
        obtain ⟨a22, ea22, hyp⟩ := md_bd hyp
        obtain ⟨r22, er22, hyp⟩ := md_bd hyp
        have f22 := a_Ln_takes er22 hF19 (fr_rc (hx1) ea22) 
        rcases fr_if hyp with ⟨q, hyp⟩ | ⟨q, hyp⟩
        · obtain ⟨q32, hyp⟩ := md_ifs hyp
          cases hyp
          exact f22
        · obtain ⟨a25, ea25, hyp⟩ := md_bd hyp
          obtain ⟨r25, er25, hyp⟩ := md_bd hyp
          have f25 := a_Ln_sign er25 f22 (fr_rc (hx1) ea25) 
          obtain ⟨r26, er26, hyp⟩ := md_bd hyp
          have f26 := a_Rd_isName er26 f25 
          rcases fr_if hyp with ⟨q, hyp⟩ | ⟨q, hyp⟩
          · exact a_Rd_readBody_73 ha hyp f26 (hx1)
          · exact ih _ _ _ _ _ hyp f26 (hx1) (hx2)
theorem a_Rd_readBody_0 {b N : Nat} {C : Nat × Nat} {h0 : ag_H} {a : Nat} (ha : fr_ok b (some a)) {x1 : Option Nat} {x2 : Option Nat} {h : ag_H} {res : (Int32) × ag_H} (hyp : fn_Rd_readBody_0 N C a x1 x2 h = some res) (hF : fr_H b h0 h) (hx1 : fr_ok b x1) (hx2 : fr_ok b x2) : fr_H b h0 res.2 := by
  unfold fn_Rd_readBody_0 at hyp
  exact a_Rd_readBody_2 ha N _ _ _ _ _ hyp hF (hx1) (hx2)
theorem a_Rd_readBody {b N : Nat} {C : Nat × Nat} {h0 : ag_H} {a : Nat} {p1 : Option Nat} {p2 : Option Nat} {h : ag_H} {res : (Int32) × ag_H} (hyp : fn_Rd_readBody N C a p1 p2 h = some res) (hF : fr_H b h0 h) (ha : fr_ok b (some a)) (hp1 : fr_ok b p1) (hp2 : fr_ok b p2) : fr_H b h0 res.2 := a_Rd_readBody_0 ha hyp hF hp1 hp2
theorem a_Ar_copyOf3_0 {b N : Nat} {C : Nat × Nat} {h0 : ag_H} {x0 : Option Nat} {x1 : Int32} {h : ag_H} {res : (Option Nat) × ag_H} (hyp : fn_Ar_copyOf3_0 N C x0 x1 h = some res) (hF : fr_H b h0 h) (hx0 : fr_ok b x0) : fr_H b h0 res.2 ∧ fr_ok b res.1 := by
  unfold fn_Ar_copyOf3_0 at hyp
  obtain ⟨g3, eg3, hyp⟩ := md_bd hyp
  rcases fr_if hyp with ⟨q, hyp⟩ | ⟨q, hyp⟩
  · cases hyp
  · obtain ⟨q6, hyp⟩ := md_ifs hyp
    have hF6 : fr_H b h0 (ag_nw h (x1).toNatClampNeg (.inl (0, (x1).toNatClampNeg, .inl (fun _ => 0)))) := fr_nw hF trivial
    obtain ⟨g13, eg13, hyp⟩ := md_bd hyp
    obtain ⟨h16, eh16, hyp⟩ := md_bd hyp
    have hF16 : fr_H b h0 h16 := fr_cpi hF6 (fr_new hF) eh16
    cases hyp
    exact ⟨hF16, fr_new hF⟩
theorem a_Ar_copyOf3 {b N : Nat} {C : Nat × Nat} {h0 : ag_H} {p0 : Option Nat} {p1 : Int32} {h : ag_H} {res : (Option Nat) × ag_H} (hyp : fn_Ar_copyOf3 N C p0 p1 h = some res) (hF : fr_H b h0 h) (hp0 : fr_ok b p0) : fr_H b h0 res.2 ∧ fr_ok b res.1 := a_Ar_copyOf3_0 hyp hF hp0
theorem a_Cl_init_0 {b N : Nat} {C : Nat × Nat} {h0 : ag_H} {a : Nat} (ha : fr_ok b (some a)) {x1 : Int32} {x2 : Int32} {x3 : Option Nat} {x4 : Option Nat} {x5 : Option Nat} {h : ag_H} {res : (Int32) × ag_H} (hyp : fn_Cl_init_0 N C a x1 x2 x3 x4 x5 h = some res) (hF : fr_H b h0 h) (hx3 : fr_ok b x3) (hx4 : fr_ok b x4) (hx5 : fr_ok b x5) : fr_H b h0 res.2 := by
  unfold fn_Cl_init_0 at hyp
  obtain ⟨h5, eh5, hyp⟩ := md_bd hyp
  have hF5 : fr_H b h0 h5 := fr_pf hF (ha) fr_vi eh5
  obtain ⟨h8, eh8, hyp⟩ := md_bd hyp
  have hF8 : fr_H b h0 h8 := fr_pf hF5 (ha) fr_vi eh8
  obtain ⟨h11, eh11, hyp⟩ := md_bd hyp
  have hF11 : fr_H b h0 h11 := fr_pf hF8 (ha) (fr_vr (r := (x3)) (hx3)) eh11
  obtain ⟨h14, eh14, hyp⟩ := md_bd hyp
  have hF14 : fr_H b h0 h14 := fr_pf hF11 (ha) (fr_vr (r := (x4)) (hx4)) eh14
  obtain ⟨h17, eh17, hyp⟩ := md_bd hyp
  have hF17 : fr_H b h0 h17 := fr_pf hF14 (ha) (fr_vr (r := (x5)) (hx5)) eh17
  cases hyp
  exact hF17
theorem a_Cl_init {b N : Nat} {C : Nat × Nat} {h0 : ag_H} {a : Nat} {p1 : Int32} {p2 : Int32} {p3 : Option Nat} {p4 : Option Nat} {p5 : Option Nat} {h : ag_H} {res : (Int32) × ag_H} (hyp : fn_Cl_init N C a p1 p2 p3 p4 p5 h = some res) (hF : fr_H b h0 h) (ha : fr_ok b (some a)) (hp3 : fr_ok b p3) (hp4 : fr_ok b p4) (hp5 : fr_ok b p5) : fr_H b h0 res.2 := a_Cl_init_0 ha hyp hF hp3 hp4 hp5
theorem a_Rd_read_131 {b N : Nat} {C : Nat × Nat} {h0 : ag_H} {a : Nat} (ha : fr_ok b (some a)) {h : ag_H} {res : (Option Nat) × ag_H} (hyp : fn_Rd_read_131 N C a h = some res) (hF : fr_H b h0 h) : fr_H b h0 res.2 ∧ fr_ok b res.1 := by
  unfold fn_Rd_read_131 at hyp
  cases hyp
  exact ⟨hF, fr_none⟩
theorem a_Rd_read_108 {b N : Nat} {C : Nat × Nat} {h0 : ag_H} {a : Nat} (ha : fr_ok b (some a)) {x1 : Option Nat} {x2 : Option Nat} {x3 : Int32} {x4 : Option Nat} {s0 : Int32} {h : ag_H} {res : (Option Nat) × ag_H} (hyp : fn_Rd_read_108 N C a x1 x2 x3 x4 s0 h = some res) (hF : fr_H b h0 h) (hx1 : fr_ok b x1) (hx2 : fr_ok b x2) (hx4 : fr_ok b x4) : fr_H b h0 res.2 ∧ fr_ok b res.1 := by
  unfold fn_Rd_read_108 at hyp
  obtain ⟨a3, ea3, hyp⟩ := md_bd hyp
  obtain ⟨r3, er3, hyp⟩ := md_bd hyp
  have f3 := a_Ln_sign er3 hF (fr_rc (hx1) ea3) 
  rcases fr_if hyp with ⟨q, hyp⟩ | ⟨q, hyp⟩
  · obtain ⟨g6, eg6, hyp⟩ := md_bd hyp
    obtain ⟨g8, eg8, hyp⟩ := md_bd hyp
    rcases fr_if hyp with ⟨q, hyp⟩ | ⟨q, hyp⟩
    · obtain ⟨q13, hyp⟩ := md_ifs hyp
      have hF13 : fr_H b h0 (ag_nw r3.2 5 (.inr (7, [.int 0, .int 0, .null, .null, .null]))) := fr_nw f3 (fr_ob rfl)
      obtain ⟨g20, eg20, hyp⟩ := md_bd hyp
      obtain ⟨g22, eg22, hyp⟩ := md_bd hyp
      obtain ⟨r23, er23, hyp⟩ := md_bd hyp
      have f23 := a_Ar_copyOf3 er23 hF13 (fr_gr hF13 (ha) eg20)
      obtain ⟨r24, er24, hyp⟩ := md_bd hyp
      have f24 := a_Cl_init er24 f23.1 (fr_new f3) (hx2) (hx4) (f23.2)
      cases hyp
      exact ⟨f24, fr_new f3⟩
    · exact a_Rd_read_131 ha hyp f3
  · exact a_Rd_read_131 ha hyp f3
theorem a_Rd_read_107 {b N : Nat} {C : Nat × Nat} {h0 : ag_H} {a : Nat} (ha : fr_ok b (some a)) {x1 : Option Nat} {x2 : Option Nat} {x3 : Int32} {x4 : Option Nat} {h : ag_H} {res : (Option Nat) × ag_H} (hyp : fn_Rd_read_107 N C a x1 x2 x3 x4 h = some res) (hF : fr_H b h0 h) (hx1 : fr_ok b x1) (hx2 : fr_ok b x2) (hx4 : fr_ok b x4) : fr_H b h0 res.2 ∧ fr_ok b res.1 := by
  unfold fn_Rd_read_107 at hyp
  exact a_Rd_read_108 ha hyp hF (hx1) (hx2) (hx4)
theorem a_Rd_read_90 {b N : Nat} {C : Nat × Nat} {h0 : ag_H} {a : Nat} (ha : fr_ok b (some a)) {x1 : Option Nat} {x2 : Option Nat} {x3 : Int32} {x4 : Option Nat} {h : ag_H} {res : (Option Nat) × ag_H} (hyp : fn_Rd_read_90 N C a x1 x2 x3 x4 h = some res) (hF : fr_H b h0 h) (hx1 : fr_ok b x1) (hx2 : fr_ok b x2) (hx4 : fr_ok b x4) : fr_H b h0 res.2 ∧ fr_ok b res.1 := by
  unfold fn_Rd_read_90 at hyp
  rcases fr_if hyp with ⟨q, hyp⟩ | ⟨q, hyp⟩
  · exact a_Rd_read_107 ha hyp hF (hx1) (hx2) (hx4)
  · obtain ⟨a5, ea5, hyp⟩ := md_bd hyp
    obtain ⟨r5, er5, hyp⟩ := md_bd hyp
    have f5 := a_Ln_takes er5 hF (fr_rc (hx1) ea5) 
    rcases fr_if hyp with ⟨q, hyp⟩ | ⟨q, hyp⟩
    · exact a_Rd_read_107 ha hyp f5 (hx1) (hx2) (hx4)
    · exact a_Rd_read_108 ha hyp f5 (hx1) (hx2) (hx4)
theorem a_Rd_read_65 {b N : Nat} {C : Nat × Nat} {h0 : ag_H} {a : Nat} (ha : fr_ok b (some a)) {x1 : Option Nat} {x2 : Option Nat} {x3 : Int32} {h : ag_H} {res : (Option Nat) × ag_H} (hyp : fn_Rd_read_65 N C a x1 x2 x3 h = some res) (hF : fr_H b h0 h) (hx1 : fr_ok b x1) (hx2 : fr_ok b x2) : fr_H b h0 res.2 ∧ fr_ok b res.1 := by
  unfold fn_Rd_read_65 at hyp
  obtain ⟨q1, hyp⟩ := md_ifs hyp
  have hF1 : fr_H b h0 (ag_nw h 3 (.inr (11, [.null, .int 0, .int 0]))) := fr_nw hF (fr_ob rfl)
  obtain ⟨r3, er3, hyp⟩ := md_bd hyp
  have f3 := a_AL_init er3 hF1 (fr_new hF) 
  rcases fr_if hyp with ⟨q, hyp⟩ | ⟨q, hyp⟩
  · exact a_Rd_read_90 ha hyp f3 (hx1) (hx2) (fr_new hF)
  · obtain ⟨a10, ea10, hyp⟩ := md_bd hyp
    obtain ⟨r10, er10, hyp⟩ := md_bd hyp
    have f10 := a_Rd_readBody er10 f3 (fr_rc (ha) ea10) (hx1) (fr_new hF)
    rcases fr_if hyp with ⟨q, hyp⟩ | ⟨q, hyp⟩
    · cases hyp
      exact ⟨f10, fr_none⟩
    · exact a_Rd_read_90 ha hyp f10 (hx1) (hx2) (fr_new hF)
theorem a_Rd_read_64 {b N : Nat} {C : Nat × Nat} {h0 : ag_H} {a : Nat} (ha : fr_ok b (some a)) {x1 : Option Nat} {x2 : Option Nat} {s0 : Int32} {h : ag_H} {res : (Option Nat) × ag_H} (hyp : fn_Rd_read_64 N C a x1 x2 s0 h = some res) (hF : fr_H b h0 h) (hx1 : fr_ok b x1) (hx2 : fr_ok b x2) : fr_H b h0 res.2 ∧ fr_ok b res.1 := by
  unfold fn_Rd_read_64 at hyp
  exact a_Rd_read_65 ha hyp hF (hx1) (hx2)
theorem a_Rd_read_0 {b N : Nat} {C : Nat × Nat} {h0 : ag_H} {a : Nat} (ha : fr_ok b (some a)) {x1 : Option Nat} {h : ag_H} {res : (Option Nat) × ag_H} (hyp : fn_Rd_read_0 N C a x1 h = some res) (hF : fr_H b h0 h) (hx1 : fr_ok b x1) : fr_H b h0 res.2 ∧ fr_ok b res.1 := by
  unfold fn_Rd_read_0 at hyp
  obtain ⟨h3, eh3, hyp⟩ := md_bd hyp
  have hF3 : fr_H b h0 h3 := fr_pf hF (hx1) fr_vi eh3
  obtain ⟨h6, eh6, hyp⟩ := md_bd hyp
  have hF6 : fr_H b h0 h6 := fr_pf hF3 (ha) fr_vi eh6
  obtain ⟨h9, eh9, hyp⟩ := md_bd hyp
  have hF9 : fr_H b h0 h9 := fr_pf hF6 (ha) fr_vi eh9
  obtain ⟨h12, eh12, hyp⟩ := md_bd hyp
  have hF12 : fr_H b h0 h12 := fr_pf hF9 (ha) fr_vi eh12
  obtain ⟨r16, er16, hyp⟩ := md_bd hyp
  have f16 := a_Rd_readKind er16 hF12 (hx1)
  rcases fr_if hyp with ⟨q, hyp⟩ | ⟨q, hyp⟩
  · obtain ⟨r21, er21, hyp⟩ := md_bd hyp
    have f21 := a_Rd_readAtom er21 f16 (hx1)
    rcases fr_if hyp with ⟨q, hyp⟩ | ⟨q, hyp⟩
    · cases hyp
      exact ⟨f21.1, fr_none⟩
    · obtain ⟨a27, ea27, hyp⟩ := md_bd hyp
      obtain ⟨r27, er27, hyp⟩ := md_bd hyp
      have f27 := a_At_variables er27 f21.1 (fr_rc (f21.2) ea27) 
      obtain ⟨h28, eh28, hyp⟩ := md_bd hyp
      have hF28 : fr_H b h0 h28 := fr_pf f27 (ha) fr_vi eh28
      obtain ⟨a31, ea31, hyp⟩ := md_bd hyp
      obtain ⟨r31, er31, hyp⟩ := md_bd hyp
      have f31 := a_Ln_takes er31 hF28 (fr_rc (hx1) ea31) 
      rcases fr_if hyp with ⟨q, hyp⟩ | ⟨q, hyp⟩
      · exact a_Rd_read_64 ha hyp f31 (hx1) (f21.2)
      · exact a_Rd_read_64 ha hyp f31 (hx1) (f21.2)
  · exact a_Rd_read_65 ha hyp f16 (hx1) (fr_none)
theorem a_Rd_read {b N : Nat} {C : Nat × Nat} {h0 : ag_H} {a : Nat} {p1 : Option Nat} {h : ag_H} {res : (Option Nat) × ag_H} (hyp : fn_Rd_read N C a p1 h = some res) (hF : fr_H b h0 h) (ha : fr_ok b (some a)) (hp1 : fr_ok b p1) : fr_H b h0 res.2 ∧ fr_ok b res.1 := a_Rd_read_0 ha hyp hF hp1
theorem a_GC_moveLine_0 {b N : Nat} {C : Nat × Nat} {h0 : ag_H} {a : Nat} (ha : fr_ok b (some a)) {x1 : Option Nat} {x2 : Option Nat} {h : ag_H} {res : (Int32) × ag_H} (hyp : fn_GC_moveLine_0 N C a x1 x2 h = some res) (hF : fr_H b h0 h) (hx1 : fr_ok b x1) (hx2 : fr_ok b x2) : fr_H b h0 res.2 := by
  unfold fn_GC_moveLine_0 at hyp
  obtain ⟨g2, eg2, hyp⟩ := md_bd hyp
  obtain ⟨a4, ea4, hyp⟩ := md_bd hyp
  obtain ⟨r4, er4, hyp⟩ := md_bd hyp
  have f4 := a_AL_add er4 hF (fr_rc (fr_gr hF (hx2) eg2) ea4) (hx1)
  obtain ⟨g7, eg7, hyp⟩ := md_bd hyp
  obtain ⟨h9, eh9, hyp⟩ := md_bd hyp
  have hF9 : fr_H b h0 h9 := fr_pf f4 (fr_gr f4 (ha) eg7) fr_vi eh9
  obtain ⟨g11, eg11, hyp⟩ := md_bd hyp
  cases hyp
  exact hF9
theorem a_GC_moveLine {b N : Nat} {C : Nat × Nat} {h0 : ag_H} {a : Nat} {p1 : Option Nat} {p2 : Option Nat} {h : ag_H} {res : (Int32) × ag_H} (hyp : fn_GC_moveLine N C a p1 p2 h = some res) (hF : fr_H b h0 h) (ha : fr_ok b (some a)) (hp1 : fr_ok b p1) (hp2 : fr_ok b p2) : fr_H b h0 res.2 := a_GC_moveLine_0 ha hyp hF hp1 hp2
theorem a_GC_clause_40 {b N : Nat} {C : Nat × Nat} {h0 : ag_H} {a : Nat} (ha : fr_ok b (some a)) {h : ag_H} {res : (Int32 ⊕ Nat) × ag_H} (hyp : fn_GC_clause_40 N C a h = some res) (hF : fr_H b h0 h) : fr_H b h0 res.2 := by
  unfold fn_GC_clause_40 at hyp
  obtain ⟨q1, hyp⟩ := md_ifs hyp
  cases hyp
  exact fr_nw hF (fr_ob rfl)
theorem a_GC_clause_0 {b N : Nat} {C : Nat × Nat} {h0 : ag_H} {a : Nat} (ha : fr_ok b (some a)) {h : ag_H} {res : (Int32 ⊕ Nat) × ag_H} (hyp : fn_GC_clause_0 N C a h = some res) (hF : fr_H b h0 h) : fr_H b h0 res.2 := by
  unfold fn_GC_clause_0 at hyp
  obtain ⟨g2, eg2, hyp⟩ := md_bd hyp
  obtain ⟨g4, eg4, hyp⟩ := md_bd hyp
  obtain ⟨a5, ea5, hyp⟩ := md_bd hyp
  obtain ⟨r5, er5, hyp⟩ := md_bd hyp
  have f5 := a_Rd_read er5 hF (fr_rc (fr_gr hF (ha) eg2) ea5) (fr_gr hF (ha) eg4)
  rcases fr_if hyp with ⟨q, hyp⟩ | ⟨q, hyp⟩
  · obtain ⟨q30, hyp⟩ := md_ifs hyp
    cases hyp
    exact fr_nw f5.1 (fr_ob rfl)
  · obtain ⟨g10, eg10, hyp⟩ := md_bd hyp
    rcases fr_if hyp with ⟨q, hyp⟩ | ⟨q, hyp⟩
    · exact a_GC_clause_40 ha hyp f5.1
    · obtain ⟨g14, eg14, hyp⟩ := md_bd hyp
      rcases fr_if hyp with ⟨q, hyp⟩ | ⟨q, hyp⟩
      · exact a_GC_clause_40 ha hyp f5.1
      · obtain ⟨g18, eg18, hyp⟩ := md_bd hyp
        obtain ⟨g19, eg19, hyp⟩ := md_bd hyp
        obtain ⟨a20, ea20, hyp⟩ := md_bd hyp
        obtain ⟨r20, er20, hyp⟩ := md_bd hyp
        have f20 := a_AL_size er20 f5.1 (fr_rc (fr_gr f5.1 (fr_gr f5.1 (ha) eg18) eg19) ea20) 
        rcases fr_if hyp with ⟨q, hyp⟩ | ⟨q, hyp⟩
        · obtain ⟨g26, eg26, hyp⟩ := md_bd hyp
          obtain ⟨a27, ea27, hyp⟩ := md_bd hyp
          obtain ⟨r27, er27, hyp⟩ := md_bd hyp
          have f27 := a_GC_moveLine er27 f20 (fr_rc (ha) ea27) (f5.2) (fr_gr f20 (ha) eg26)
          cases hyp
          exact f27
        · obtain ⟨q29, hyp⟩ := md_ifs hyp
          cases hyp
          exact fr_nw f20 (fr_ob rfl)
theorem a_GC_clause {b N : Nat} {C : Nat × Nat} {h0 : ag_H} {a : Nat} {h : ag_H} {res : (Int32 ⊕ Nat) × ag_H} (hyp : fn_GC_clause N C a h = some res) (hF : fr_H b h0 h) (ha : fr_ok b (some a)) : fr_H b h0 res.2 := a_GC_clause_0 ha hyp hF 
