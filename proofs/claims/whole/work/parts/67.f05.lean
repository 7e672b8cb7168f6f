/-! frame: GC_layOut, Fa_offer, Jg_layFacts, Jg_valueOf, Jg_compare, Jg_calculate, Jg_work, Jg_finish, Jg_fitTerm -/
theorem a_GC_layOut_92 {b N : Nat} {C : Nat × Nat} {h0 : ag_H} {a : Nat} (ha : fr_ok b (some a)) {k2 : Option Nat → Int32 → ag_H → Option ((Int32) × ag_H)} (hk2 : ∀ (res : (Int32) × ag_H) (y1 : Option Nat) (y2 : Int32) (hh : ag_H), k2 y1 y2 hh = some res → fr_H b h0 hh → fr_ok b y1 → fr_H b h0 res.2) {x1 : Option Nat} {x2 : Int32} {s0 : Option Nat} {s1 : Int32} {s2 : Option Nat} {h : ag_H} {res : (Int32) × ag_H} (hyp : fn_GC_layOut_92 N C a k2 x1 x2 s0 s1 s2 h = some res) (hF : fr_H b h0 h) (hx1 : fr_ok b x1) (hs0 : fr_ok b s0) (hs2 : fr_ok b s2) : fr_H b h0 res.2 := by
  unfold fn_GC_layOut_92 at hyp
  obtain ⟨h1, eh1, hyp⟩ := md_bd hyp
  have hF1 : fr_H b h0 h1 := fr_as hF (hs0) (hs2) eh1
  exact hk2 _ _ _ _ hyp hF1 (hx1)
theorem a_GC_layOut_85 {b N : Nat} {C : Nat × Nat} {h0 : ag_H} {a : Nat} (ha : fr_ok b (some a)) {k2 : Option Nat → Int32 → ag_H → Option ((Int32) × ag_H)} (hk2 : ∀ (res : (Int32) × ag_H) (y1 : Option Nat) (y2 : Int32) (hh : ag_H), k2 y1 y2 hh = some res → fr_H b h0 hh → fr_ok b y1 → fr_H b h0 res.2) {x1 : Option Nat} {x2 : Int32} {s0 : Option Nat} {s1 : Int32} {h : ag_H} {res : (Int32) × ag_H} (hyp : fn_GC_layOut_85 N C a k2 x1 x2 s0 s1 h = some res) (hF : fr_H b h0 h) (hx1 : fr_ok b x1) (hs0 : fr_ok b s0) : fr_H b h0 res.2 := by
  unfold fn_GC_layOut_85 at hyp
  obtain ⟨g2, eg2, hyp⟩ := md_bd hyp
  obtain ⟨g3, eg3, hyp⟩ := md_bd hyp
  exact a_GC_layOut_92 ha hk2 hyp hF (hx1) (hs0) (fr_gr hF (fr_gr hF (ha) eg2) eg3)
theorem a_GC_layOut_40 {b N : Nat} {C : Nat × Nat} {h0 : ag_H} {a : Nat} (ha : fr_ok b (some a)) {k2 : Option Nat → Int32 → ag_H → Option ((Int32) × ag_H)} (hk2 : ∀ (res : (Int32) × ag_H) (y1 : Option Nat) (y2 : Int32) (hh : ag_H), k2 y1 y2 hh = some res → fr_H b h0 hh → fr_ok b y1 → fr_H b h0 res.2) {x1 : Option Nat} {x2 : Int32} {s0 : Int32} {h : ag_H} {res : (Int32) × ag_H} (hyp : fn_GC_layOut_40 N C a k2 x1 x2 s0 h = some res) (hF : fr_H b h0 h) (hx1 : fr_ok b x1) : fr_H b h0 res.2 := by
  unfold fn_GC_layOut_40 at hyp
  obtain ⟨g3, eg3, hyp⟩ := md_bd hyp
  obtain ⟨g4, eg4, hyp⟩ := md_bd hyp
  rcases fr_if hyp with ⟨q, hyp⟩ | ⟨q, hyp⟩
  · exact a_GC_layOut_85 ha hk2 hyp hF (hx1) (fr_gr hF (fr_gr hF (ha) eg3) eg4)
  · obtain ⟨g11, eg11, hyp⟩ := md_bd hyp
    obtain ⟨a12, ea12, hyp⟩ := md_bd hyp
    obtain ⟨r12, er12, hyp⟩ := md_bd hyp
    have f12 := a_AL_size er12 hF (fr_rc (fr_gr hF (ha) eg11) ea12) 
    rcases fr_if hyp with ⟨q, hyp⟩ | ⟨q, hyp⟩
    · exact a_GC_layOut_85 ha hk2 hyp f12 (hx1) (fr_gr hF (fr_gr hF (ha) eg3) eg4)
    · obtain ⟨g15, eg15, hyp⟩ := md_bd hyp
      obtain ⟨a19, ea19, hyp⟩ := md_bd hyp
      obtain ⟨r19, er19, hyp⟩ := md_bd hyp
      have f19 := a_AL_get er19 f12 (fr_rc (fr_gr f12 (ha) eg15) ea19) 
      obtain ⟨q20, hyp⟩ := md_ifs hyp
      exact a_GC_layOut_92 ha hk2 hyp f19.1 (hx1) (fr_gr hF (fr_gr hF (ha) eg3) eg4) (f19.2)
theorem a_GC_layOut_2 {b N : Nat} {C : Nat × Nat} {h0 : ag_H} {a : Nat} (ha : fr_ok b (some a)) : ∀ (n : Nat) (res : (Int32) × ag_H) (x1 : Option Nat) (x2 : Int32) (h : ag_H) , fn_GC_layOut_2 N C a n x1 x2 h = some res → fr_H b h0 h → fr_ok b x1 → fr_H b h0 res.2 := by
  intro n
  induction n with
  | zero =>
    intro res x1 x2 h hyp
    cases hyp
  | succ n ih =>
    intro res x1 x2 h hyp hF hx1
    rw [fe_GC_layOut_2] at hyp
    rcases fr_if hyp with ⟨q, hyp⟩ | ⟨q, hyp⟩
    · obtain ⟨g5, eg5, hyp⟩ := md_bd hyp
      obtain ⟨g6, eg6, hyp⟩ := md_bd hyp
      obtain ⟨g9, eg9, hyp⟩ := md_bd hyp
      obtain ⟨h10, eh10, hyp⟩ := md_bd hyp
      have hF10 : fr_H b h0 h10 := fr_as hF (fr_gr hF (fr_gr hF (ha) eg5) eg6) (fr_gr hF (ha) eg9) eh10
      cases hyp
      exact hF10
    · obtain ⟨g14, eg14, hyp⟩ := md_bd hyp
      obtain ⟨a15, ea15, hyp⟩ := md_bd hyp
      obtain ⟨r15, er15, hyp⟩ := md_bd hyp
      have f15 := a_AL_size er15 hF (fr_rc (fr_gr hF (hx1) eg14) ea15) 
      rcases fr_if hyp with ⟨q, hyp⟩ | ⟨q, hyp⟩
      · exact a_GC_layOut_40 ha ih hyp f15 (hx1)
      · obtain ⟨g19, eg19, hyp⟩ := md_bd hyp
        obtain ⟨a21, ea21, hyp⟩ := md_bd hyp
        obtain ⟨r21, er21, hyp⟩ := md_bd hyp
        have f21 := a_AL_get er21 f15 (fr_rc (fr_gr f15 (hx1) eg19) ea21) 
        obtain ⟨q22, hyp⟩ := md_ifs hyp
        obtain ⟨g23, eg23, hyp⟩ := md_bd hyp
        exact a_GC_layOut_40 ha ih hyp f21.1 (hx1)
theorem a_GC_layOut_0 {b N : Nat} {C : Nat × Nat} {h0 : ag_H} {a : Nat} (ha : fr_ok b (some a)) {x1 : Option Nat} {h : ag_H} {res : (Int32) × ag_H} (hyp : fn_GC_layOut_0 N C a x1 h = some res) (hF : fr_H b h0 h) (hx1 : fr_ok b x1) : fr_H b h0 res.2 := by
  unfold fn_GC_layOut_0 at hyp
  exact a_GC_layOut_2 ha N _ _ _ _ hyp hF (hx1)
theorem a_GC_layOut {b N : Nat} {C : Nat × Nat} {h0 : ag_H} {a : Nat} {p1 : Option Nat} {h : ag_H} {res : (Int32) × ag_H} (hyp : fn_GC_layOut N C a p1 h = some res) (hF : fr_H b h0 h) (ha : fr_ok b (some a)) (hp1 : fr_ok b p1) : fr_H b h0 res.2 := a_GC_layOut_0 ha hyp hF hp1
theorem a_Fa_offer_106 {b N : Nat} {C : Nat × Nat} {h0 : ag_H} {a : Nat} (ha : fr_ok b (some a)) {h : ag_H} {res : (Int32) × ag_H} (hyp : fn_Fa_offer_106 N C a h = some res) (hF : fr_H b h0 h) : fr_H b h0 res.2 := by
  unfold fn_Fa_offer_106 at hyp
  cases hyp
  exact hF
theorem a_Fa_offer_46 {b N : Nat} {C : Nat × Nat} {h0 : ag_H} {a : Nat} (ha : fr_ok b (some a)) : ∀ (n : Nat) (res : (Int32) × ag_H) (x5 : Option Nat) (x6 : Int32) (h : ag_H) , fn_Fa_offer_46 N C a n x5 x6 h = some res → fr_H b h0 h → fr_ok b x5 → fr_H b h0 res.2 := by
  intro n
  induction n with
  | zero =>
    intro res x5 x6 h hyp
    cases hyp
  | succ n ih =>
    intro res x5 x6 h hyp hF hx5
    rw [fe_Fa_offer_46] at hyp
    obtain ⟨g3, eg3, hyp⟩ := md_bd hyp
    rcases fr_if hyp with ⟨q, hyp⟩ | ⟨q, hyp⟩
    · obtain ⟨g6, eg6, hyp⟩ := md_bd hyp
      obtain ⟨g8, eg8, hyp⟩ := md_bd hyp
      rcases fr_if hyp with ⟨q, hyp⟩ | ⟨q, hyp⟩
      · obtain ⟨g12, eg12, hyp⟩ := md_bd hyp
        obtain ⟨h15, eh15, hyp⟩ := md_bd hyp
        have hF15 : fr_H b h0 h15 := fr_pf hF (ha) fr_vi eh15
        exact a_Fa_offer_106 ha hyp hF15 
      · obtain ⟨h18, eh18, hyp⟩ := md_bd hyp
        have hF18 : fr_H b h0 h18 := fr_pf hF (ha) fr_vi eh18
        exact a_Fa_offer_106 ha hyp hF18 
    · obtain ⟨g21, eg21, hyp⟩ := md_bd hyp
      obtain ⟨p23, ep23, hyp⟩ := md_bd hyp
      obtain ⟨q23, hyp⟩ := md_ifs hyp
      obtain ⟨r25, er25, hyp⟩ := md_bd hyp
      have f25 := a_Fa_order er25 hF (fr_ao hF (fr_gr hF (ha) eg21) ep23 _) (hx5)
      rcases fr_if hyp with ⟨q, hyp⟩ | ⟨q, hyp⟩
      · cases hyp
        exact f25
      · exact ih _ _ _ _ hyp f25 (hx5)
theorem a_Fa_offer_0 {b N : Nat} {C : Nat × Nat} {h0 : ag_H} {a : Nat} (ha : fr_ok b (some a)) {x1 : Option Nat} {x2 : Int32} {x3 : Int32} {x4 : Int32} {h : ag_H} {res : (Int32) × ag_H} (hyp : fn_Fa_offer_0 N C a x1 x2 x3 x4 h = some res) (hF : fr_H b h0 h) (hx1 : fr_ok b x1) : fr_H b h0 res.2 := by
  unfold fn_Fa_offer_0 at hyp
  obtain ⟨g2, eg2, hyp⟩ := md_bd hyp
  obtain ⟨g4, eg4, hyp⟩ := md_bd hyp
  obtain ⟨p5, ep5, hyp⟩ := md_bd hyp
  obtain ⟨q5, hyp⟩ := md_ifs hyp
  obtain ⟨g10, eg10, hyp⟩ := md_bd hyp
  obtain ⟨p11, ep11, hyp⟩ := md_bd hyp
  obtain ⟨q11, hyp⟩ := md_ifs hyp
  have hF11 : fr_H b h0 (ag_up h (((p5.2 (g4).toNatClampNeg)).getD 0) (.inl (0, p11.1, .inl (upd p11.2 (Int32.ofInt 0).toNatClampNeg (g10))))) := fr_ia hF (fr_ao hF (fr_gr hF (ha) eg2) ep5 _) ep11
  obtain ⟨g15, eg15, hyp⟩ := md_bd hyp
  obtain ⟨p16, ep16, hyp⟩ := md_bd hyp
  obtain ⟨q16, hyp⟩ := md_ifs hyp
  have hF16 : fr_H b h0 (ag_up (ag_up h (((p5.2 (g4).toNatClampNeg)).getD 0) (.inl (0, p11.1, .inl (upd p11.2 (Int32.ofInt 0).toNatClampNeg (g10))))) (((p5.2 (g4).toNatClampNeg)).getD 0) (.inl (0, p16.1, .inl (upd p16.2 (Int32.ofInt 1).toNatClampNeg (g15))))) := fr_ia hF11 (fr_ao hF (fr_gr hF (ha) eg2) ep5 _) ep16
  obtain ⟨p20, ep20, hyp⟩ := md_bd hyp
  obtain ⟨q20, hyp⟩ := md_ifs hyp
  have hF20 : fr_H b h0 (ag_up (ag_up (ag_up h (((p5.2 (g4).toNatClampNeg)).getD 0) (.inl (0, p11.1, .inl (upd p11.2 (Int32.ofInt 0).toNatClampNeg (g10))))) (((p5.2 (g4).toNatClampNeg)).getD 0) (.inl (0, p16.1, .inl (upd p16.2 (Int32.ofInt 1).toNatClampNeg (g15))))) (((p5.2 (g4).toNatClampNeg)).getD 0) (.inl (0, p20.1, .inl (upd p20.2 (Int32.ofInt 2).toNatClampNeg (x2))))) := fr_ia hF16 (fr_ao hF (fr_gr hF (ha) eg2) ep5 _) ep20
  obtain ⟨p24, ep24, hyp⟩ := md_bd hyp
  obtain ⟨q24, hyp⟩ := md_ifs hyp
  have hF24 : fr_H b h0 (ag_up (ag_up (ag_up (ag_up h (((p5.2 (g4).toNatClampNeg)).getD 0) (.inl (0, p11.1, .inl (upd p11.2 (Int32.ofInt 0).toNatClampNeg (g10))))) (((p5.2 (g4).toNatClampNeg)).getD 0) (.inl (0, p16.1, .inl (upd p16.2 (Int32.ofInt 1).toNatClampNeg (g15))))) (((p5.2 (g4).toNatClampNeg)).getD 0) (.inl (0, p20.1, .inl (upd p20.2 (Int32.ofInt 2).toNatClampNeg (x2))))) (((p5.2 (g4).toNatClampNeg)).getD 0) (.inl (0, p24.1, .inl (upd p24.2 (Int32.ofInt 3).toNatClampNeg (x3))))) := fr_ia hF20 (fr_ao hF (fr_gr hF (ha) eg2) ep5 _) ep24
  obtain ⟨p28, ep28, hyp⟩ := md_bd hyp
  obtain ⟨q28, hyp⟩ := md_ifs hyp
  have hF28 : fr_H b h0 (ag_up (ag_up (ag_up (ag_up (ag_up h (((p5.2 (g4).toNatClampNeg)).getD 0) (.inl (0, p11.1, .inl (upd p11.2 (Int32.ofInt 0).toNatClampNeg (g10))))) (((p5.2 (g4).toNatClampNeg)).getD 0) (.inl (0, p16.1, .inl (upd p16.2 (Int32.ofInt 1).toNatClampNeg (g15))))) (((p5.2 (g4).toNatClampNeg)).getD 0) (.inl (0, p20.1, .inl (upd p20.2 (Int32.ofInt 2).toNatClampNeg (x2))))) (((p5.2 (g4).toNatClampNeg)).getD 0) (.inl (0, p24.1, .inl (upd p24.2 (Int32.ofInt 3).toNatClampNeg (x3))))) (((p5.2 (g4).toNatClampNeg)).getD 0) (.inl (0, p28.1, .inl (upd p28.2 (Int32.ofInt 4).toNatClampNeg (x4))))) := fr_ia hF24 (fr_ao hF (fr_gr hF (ha) eg2) ep5 _) ep28
  exact a_Fa_offer_46 ha N _ _ _ _ hyp hF28 (fr_ao hF (fr_gr hF (ha) eg2) ep5 _)
theorem a_Fa_offer {b N : Nat} {C : Nat × Nat} {h0 : ag_H} {a : Nat} {p1 : Option Nat} {p2 : Int32} {p3 : Int32} {p4 : Int32} {h : ag_H} {res : (Int32) × ag_H} (hyp : fn_Fa_offer N C a p1 p2 p3 p4 h = some res) (hF : fr_H b h0 h) (ha : fr_ok b (some a)) (hp1 : fr_ok b p1) : fr_H b h0 res.2 := a_Fa_offer_0 ha hyp hF hp1
theorem a_Jg_layFacts_88 {b N : Nat} {C : Nat × Nat} {h0 : ag_H} {a : Nat} (ha : fr_ok b (some a)) {k2 : Int32 → ag_H → Option ((Int32) × ag_H)} {k19 : Int32 → Option Nat → Int32 → ag_H → Option ((Int32) × ag_H)} (hk2 : ∀ (res : (Int32) × ag_H) (y1 : Int32) (hh : ag_H), k2 y1 hh = some res → fr_H b h0 hh → fr_H b h0 res.2) (hk19 : ∀ (res : (Int32) × ag_H) (y1 : Int32) (y2 : Option Nat) (y3 : Int32) (hh : ag_H), k19 y1 y2 y3 hh = some res → fr_H b h0 hh → fr_ok b y2 → fr_H b h0 res.2) {x1 : Int32} {x2 : Option Nat} {x3 : Int32} {h : ag_H} {res : (Int32) × ag_H} (hyp : fn_Jg_layFacts_88 N C a k2 k19 x1 x2 x3 h = some res) (hF : fr_H b h0 h) (hx2 : fr_ok b x2) : fr_H b h0 res.2 := by
  unfold fn_Jg_layFacts_88 at hyp
  exact hk19 _ _ _ _ _ hyp hF (hx2)
theorem a_Jg_layFacts_19 {b N : Nat} {C : Nat × Nat} {h0 : ag_H} {a : Nat} (ha : fr_ok b (some a)) {k2 : Int32 → ag_H → Option ((Int32) × ag_H)} (hk2 : ∀ (res : (Int32) × ag_H) (y1 : Int32) (hh : ag_H), k2 y1 hh = some res → fr_H b h0 hh → fr_H b h0 res.2) : ∀ (n : Nat) (res : (Int32) × ag_H) (x1 : Int32) (x2 : Option Nat) (x3 : Int32) (h : ag_H) , fn_Jg_layFacts_19 N C a k2 n x1 x2 x3 h = some res → fr_H b h0 h → fr_ok b x2 → fr_H b h0 res.2 := by
  intro n
  induction n with
  | zero =>
    intro res x1 x2 x3 h hyp
    cases hyp
  | succ n ih =>
    intro res x1 x2 x3 h hyp hF hx2
    rw [fe_Jg_layFacts_19] at hyp
    obtain ⟨a3, ea3, hyp⟩ := md_bd hyp
    obtain ⟨r3, er3, hyp⟩ := md_bd hyp
    have f3 := a_AL_size er3 hF (fr_rc (hx2) ea3) 
    rcases fr_if hyp with ⟨q, hyp⟩ | ⟨q, hyp⟩
    · exact hk2 _ _ _ hyp f3
    · obtain ⟨a9, ea9, hyp⟩ := md_bd hyp
      obtain ⟨r9, er9, hyp⟩ := md_bd hyp
      have f9 := a_AL_get er9 f3 (fr_rc (hx2) ea9) 
      obtain ⟨q10, hyp⟩ := md_ifs hyp
      obtain ⟨g13, eg13, hyp⟩ := md_bd hyp
      rcases fr_if hyp with ⟨q, hyp⟩ | ⟨q, hyp⟩
      · obtain ⟨g16, eg16, hyp⟩ := md_bd hyp
        rcases fr_if hyp with ⟨q, hyp⟩ | ⟨q, hyp⟩
        · exact a_Jg_layFacts_88 ha hk2 ih hyp f9.1 (hx2)
        · obtain ⟨g19, eg19, hyp⟩ := md_bd hyp
          obtain ⟨g21, eg21, hyp⟩ := md_bd hyp
          obtain ⟨g23, eg23, hyp⟩ := md_bd hyp
          obtain ⟨g24, eg24, hyp⟩ := md_bd hyp
          obtain ⟨g26, eg26, hyp⟩ := md_bd hyp
          obtain ⟨g27, eg27, hyp⟩ := md_bd hyp
          obtain ⟨a31, ea31, hyp⟩ := md_bd hyp
          obtain ⟨r31, er31, hyp⟩ := md_bd hyp
          have f31 := a_Fa_offer er31 f9.1 (fr_rc (fr_gr f9.1 (ha) eg19) ea31) (fr_gr f9.1 (f9.2) eg21)
          exact a_Jg_layFacts_88 ha hk2 ih hyp f31 (hx2)
      · exact a_Jg_layFacts_88 ha hk2 ih hyp f9.1 (hx2)
theorem a_Jg_layFacts_2 {b N : Nat} {C : Nat × Nat} {h0 : ag_H} {a : Nat} (ha : fr_ok b (some a)) : ∀ (n : Nat) (res : (Int32) × ag_H) (x1 : Int32) (h : ag_H) , fn_Jg_layFacts_2 N C a n x1 h = some res → fr_H b h0 h → fr_H b h0 res.2 := by
  intro n
  induction n with
  | zero =>
    intro res x1 h hyp
    cases hyp
  | succ n ih =>
    intro res x1 h hyp hF 
    rw [fe_Jg_layFacts_2] at hyp
    rcases fr_if hyp with ⟨q, hyp⟩ | ⟨q, hyp⟩
    · cases hyp
      exact hF
    · obtain ⟨g6, eg6, hyp⟩ := md_bd hyp
      obtain ⟨p8, ep8, hyp⟩ := md_bd hyp
      obtain ⟨q8, hyp⟩ := md_ifs hyp
      obtain ⟨g9, eg9, hyp⟩ := md_bd hyp
      exact a_Jg_layFacts_19 ha ih N _ _ _ _ _ hyp hF (fr_gr hF (fr_ao hF (fr_gr hF (ha) eg6) ep8 _) eg9)
theorem a_Jg_layFacts_0 {b N : Nat} {C : Nat × Nat} {h0 : ag_H} {a : Nat} (ha : fr_ok b (some a)) {h : ag_H} {res : (Int32) × ag_H} (hyp : fn_Jg_layFacts_0 N C a h = some res) (hF : fr_H b h0 h) : fr_H b h0 res.2 := by
  unfold fn_Jg_layFacts_0 at hyp
  exact a_Jg_layFacts_2 ha N _ _ _ hyp hF 
theorem a_Jg_layFacts {b N : Nat} {C : Nat × Nat} {h0 : ag_H} {a : Nat} {h : ag_H} {res : (Int32) × ag_H} (hyp : fn_Jg_layFacts N C a h = some res) (hF : fr_H b h0 h) (ha : fr_ok b (some a)) : fr_H b h0 res.2 := a_Jg_layFacts_0 ha hyp hF 
theorem a_Jg_valueOf_19 {b N : Nat} {C : Nat × Nat} {h0 : ag_H} {a : Nat} (ha : fr_ok b (some a)) {s0 : Int32} {h : ag_H} {res : (Int32) × ag_H} (hyp : fn_Jg_valueOf_19 N C a s0 h = some res) (hF : fr_H b h0 h) : fr_H b h0 res.2 := by
  unfold fn_Jg_valueOf_19 at hyp
  cases hyp
  exact hF
theorem a_Jg_valueOf_0 {b N : Nat} {C : Nat × Nat} {h0 : ag_H} {a : Nat} (ha : fr_ok b (some a)) {x1 : Int32} {h : ag_H} {res : (Int32) × ag_H} (hyp : fn_Jg_valueOf_0 N C a x1 h = some res) (hF : fr_H b h0 h) : fr_H b h0 res.2 := by
  unfold fn_Jg_valueOf_0 at hyp
  rcases fr_if hyp with ⟨q, hyp⟩ | ⟨q, hyp⟩
  · exact a_Jg_valueOf_19 ha hyp hF
  · obtain ⟨g6, eg6, hyp⟩ := md_bd hyp
    obtain ⟨p10, ep10, hyp⟩ := md_bd hyp
    obtain ⟨q10, hyp⟩ := md_ifs hyp
    exact a_Jg_valueOf_19 ha hyp hF 
theorem a_Jg_valueOf {b N : Nat} {C : Nat × Nat} {h0 : ag_H} {a : Nat} {p1 : Int32} {h : ag_H} {res : (Int32) × ag_H} (hyp : fn_Jg_valueOf N C a p1 h = some res) (hF : fr_H b h0 h) (ha : fr_ok b (some a)) : fr_H b h0 res.2 := a_Jg_valueOf_0 ha hyp hF 
theorem a_Jg_compare_71 {b N : Nat} {C : Nat × Nat} {h0 : ag_H} {s0 : Int32} {h : ag_H} {res : (Int32) × ag_H} (hyp : fn_Jg_compare_71 N C s0 h = some res) (hF : fr_H b h0 h) : fr_H b h0 res.2 := by
  unfold fn_Jg_compare_71 at hyp
  obtain ⟨q1, hyp⟩ := md_ifs hyp
  cases hyp
  exact hF
theorem a_Jg_compare_49 {b N : Nat} {C : Nat × Nat} {h0 : ag_H} {s0 : Int32} {h : ag_H} {res : (Int32) × ag_H} (hyp : fn_Jg_compare_49 N C s0 h = some res) (hF : fr_H b h0 h) : fr_H b h0 res.2 := by
  unfold fn_Jg_compare_49 at hyp
  obtain ⟨q1, hyp⟩ := md_ifs hyp
  cases hyp
  exact hF
theorem a_Jg_compare_60 {b N : Nat} {C : Nat × Nat} {h0 : ag_H} {s0 : Int32} {h : ag_H} {res : (Int32) × ag_H} (hyp : fn_Jg_compare_60 N C s0 h = some res) (hF : fr_H b h0 h) : fr_H b h0 res.2 := by
  unfold fn_Jg_compare_60 at hyp
  obtain ⟨q1, hyp⟩ := md_ifs hyp
  cases hyp
  exact hF
theorem a_Jg_compare_38 {b N : Nat} {C : Nat × Nat} {h0 : ag_H} {s0 : Int32} {h : ag_H} {res : (Int32) × ag_H} (hyp : fn_Jg_compare_38 N C s0 h = some res) (hF : fr_H b h0 h) : fr_H b h0 res.2 := by
  unfold fn_Jg_compare_38 at hyp
  obtain ⟨q1, hyp⟩ := md_ifs hyp
  cases hyp
  exact hF
theorem a_Jg_compare_0 {b N : Nat} {C : Nat × Nat} {h0 : ag_H} {x0 : Int32} {x1 : Int32} {x2 : Int32} {h : ag_H} {res : (Int32) × ag_H} (hyp : fn_Jg_compare_0 N C x0 x1 x2 h = some res) (hF : fr_H b h0 h) : fr_H b h0 res.2 := by
  unfold fn_Jg_compare_0 at hyp
  rcases fr_if hyp with ⟨q, hyp⟩ | ⟨q, hyp⟩
  · rcases fr_if hyp with ⟨q, hyp⟩ | ⟨q, hyp⟩
    · exact a_Jg_compare_38 hyp hF
    · exact a_Jg_compare_38 hyp hF
  · rcases fr_if hyp with ⟨q, hyp⟩ | ⟨q, hyp⟩
    · rcases fr_if hyp with ⟨q, hyp⟩ | ⟨q, hyp⟩
      · exact a_Jg_compare_60 hyp hF
      · exact a_Jg_compare_60 hyp hF
    · rcases fr_if hyp with ⟨q, hyp⟩ | ⟨q, hyp⟩
      · rcases fr_if hyp with ⟨q, hyp⟩ | ⟨q, hyp⟩
        · exact a_Jg_compare_49 hyp hF
        · exact a_Jg_compare_49 hyp hF
      · rcases fr_if hyp with ⟨q, hyp⟩ | ⟨q, hyp⟩
        · exact a_Jg_compare_71 hyp hF
        · exact a_Jg_compare_71 hyp hF
theorem a_Jg_compare {b N : Nat} {C : Nat × Nat} {h0 : ag_H} {p0 : Int32} {p1 : Int32} {p2 : Int32} {h : ag_H} {res : (Int32) × ag_H} (hyp : fn_Jg_compare N C p0 p1 p2 h = some res) (hF : fr_H b h0 h) : fr_H b h0 res.2 := a_Jg_compare_0 hyp hF 
theorem a_Jg_calculate_75 {b N : Nat} {C : Nat × Nat} {h0 : ag_H} {s0 : Int32} {h : ag_H} {res : (Int32) × ag_H} (hyp : fn_Jg_calculate_75 N C s0 h = some res) (hF : fr_H b h0 h) : fr_H b h0 res.2 := by
  unfold fn_Jg_calculate_75 at hyp
  cases hyp
  exact hF
theorem a_Jg_calculate_68 {b N : Nat} {C : Nat × Nat} {h0 : ag_H} {h : ag_H} {res : (Int32) × ag_H} (hyp : fn_Jg_calculate_68 N C h = some res) (hF : fr_H b h0 h) : fr_H b h0 res.2 := by
  unfold fn_Jg_calculate_68 at hyp
  exact a_Jg_calculate_75 hyp hF 
theorem a_Jg_calculate_52 {b N : Nat} {C : Nat × Nat} {h0 : ag_H} {x3 : Int64} {h : ag_H} {res : (Int32) × ag_H} (hyp : fn_Jg_calculate_52 N C x3 h = some res) (hF : fr_H b h0 h) : fr_H b h0 res.2 := by
  unfold fn_Jg_calculate_52 at hyp
  rcases fr_if hyp with ⟨q, hyp⟩ | ⟨q, hyp⟩
  · exact a_Jg_calculate_68 hyp hF
  · rcases fr_if hyp with ⟨q, hyp⟩ | ⟨q, hyp⟩
    · exact a_Jg_calculate_75 hyp hF
    · exact a_Jg_calculate_68 hyp hF
theorem a_Jg_calculate_18 {b N : Nat} {C : Nat × Nat} {h0 : ag_H} {s0 : Int32} {h : ag_H} {res : (Int32) × ag_H} (hyp : fn_Jg_calculate_18 N C s0 h = some res) (hF : fr_H b h0 h) : fr_H b h0 res.2 := by
  unfold fn_Jg_calculate_18 at hyp
  cases hyp
  exact hF
theorem a_Jg_calculate_0 {b N : Nat} {C : Nat × Nat} {h0 : ag_H} {x0 : Int32} {x1 : Int32} {x2 : Int32} {h : ag_H} {res : (Int32) × ag_H} (hyp : fn_Jg_calculate_0 N C x0 x1 x2 h = some res) (hF : fr_H b h0 h) : fr_H b h0 res.2 := by
  unfold fn_Jg_calculate_0 at hyp
  rcases fr_if hyp with ⟨q, hyp⟩ | ⟨q, hyp⟩
  · rcases fr_if hyp with ⟨q, hyp⟩ | ⟨q, hyp⟩
    · exact a_Jg_calculate_18 hyp hF
    · obtain ⟨q33, hyp⟩ := md_ifs hyp
      exact a_Jg_calculate_18 hyp hF 
  · rcases fr_if hyp with ⟨q, hyp⟩ | ⟨q, hyp⟩
    · exact a_Jg_calculate_52 hyp hF
    · rcases fr_if hyp with ⟨q, hyp⟩ | ⟨q, hyp⟩
      · exact a_Jg_calculate_52 hyp hF
      · exact a_Jg_calculate_52 hyp hF
theorem a_Jg_calculate {b N : Nat} {C : Nat × Nat} {h0 : ag_H} {p0 : Int32} {p1 : Int32} {p2 : Int32} {h : ag_H} {res : (Int32) × ag_H} (hyp : fn_Jg_calculate N C p0 p1 p2 h = some res) (hF : fr_H b h0 h) : fr_H b h0 res.2 := a_Jg_calculate_0 hyp hF 
theorem a_Jg_work_133 {b N : Nat} {C : Nat × Nat} {h0 : ag_H} {a : Nat} (ha : fr_ok b (some a)) {k4 : Option Nat → Int32 → Int32 → ag_H → Option ((Int32) × ag_H)} (hk4 : ∀ (res : (Int32) × ag_H) (y1 : Option Nat) (y2 : Int32) (y3 : Int32) (hh : ag_H), k4 y1 y2 y3 hh = some res → fr_H b h0 hh → fr_ok b y1 → fr_H b h0 res.2) {x1 : Option Nat} {x2 : Int32} {x3 : Int32} {h : ag_H} {res : (Int32) × ag_H} (hyp : fn_Jg_work_133 N C a k4 x1 x2 x3 h = some res) (hF : fr_H b h0 h) (hx1 : fr_ok b x1) : fr_H b h0 res.2 := by
  unfold fn_Jg_work_133 at hyp
  exact hk4 _ _ _ _ _ hyp hF (hx1)
theorem a_Jg_work_44 {b N : Nat} {C : Nat × Nat} {h0 : ag_H} {a : Nat} (ha : fr_ok b (some a)) {k4 : Option Nat → Int32 → Int32 → ag_H → Option ((Int32) × ag_H)} (hk4 : ∀ (res : (Int32) × ag_H) (y1 : Option Nat) (y2 : Int32) (y3 : Int32) (hh : ag_H), k4 y1 y2 y3 hh = some res → fr_H b h0 hh → fr_ok b y1 → fr_H b h0 res.2) {x1 : Option Nat} {x2 : Int32} {x3 : Int32} {x4 : Int32} {h : ag_H} {res : (Int32) × ag_H} (hyp : fn_Jg_work_44 N C a k4 x1 x2 x3 x4 h = some res) (hF : fr_H b h0 h) (hx1 : fr_ok b x1) : fr_H b h0 res.2 := by
  unfold fn_Jg_work_44 at hyp
  rcases fr_if hyp with ⟨q, hyp⟩ | ⟨q, hyp⟩
  · exact a_Jg_work_133 ha hk4 hyp hF (hx1)
  · rcases fr_if hyp with ⟨q, hyp⟩ | ⟨q, hyp⟩
    · exact a_Jg_work_133 ha hk4 hyp hF (hx1)
    · obtain ⟨g7, eg7, hyp⟩ := md_bd hyp
      obtain ⟨p11, ep11, hyp⟩ := md_bd hyp
      obtain ⟨q11, hyp⟩ := md_ifs hyp
      obtain ⟨g14, eg14, hyp⟩ := md_bd hyp
      obtain ⟨p18, ep18, hyp⟩ := md_bd hyp
      obtain ⟨q18, hyp⟩ := md_ifs hyp
      obtain ⟨r23, er23, hyp⟩ := md_bd hyp
      have f23 := a_GC_isComparison er23 hF 
      rcases fr_if hyp with ⟨q, hyp⟩ | ⟨q, hyp⟩
      · obtain ⟨r29, er29, hyp⟩ := md_bd hyp
        have f29 := a_Jg_calculate er29 f23 
        rcases fr_if hyp with ⟨q, hyp⟩ | ⟨q, hyp⟩
        · cases hyp
          exact f29
        · obtain ⟨g35, eg35, hyp⟩ := md_bd hyp
          obtain ⟨p38, ep38, hyp⟩ := md_bd hyp
          obtain ⟨q38, hyp⟩ := md_ifs hyp
          have hF38 : fr_H b h0 (ag_up r29.2 ((g35).getD 0) (.inl (0, p38.1, .inl (upd p38.2 ((x2) + Int32.ofInt (-2)).toNatClampNeg (r29.1))))) := fr_ia f29 (fr_gr f29 (ha) eg35) ep38
          exact a_Jg_work_133 ha hk4 hyp hF38 (hx1)
      · obtain ⟨r46, er46, hyp⟩ := md_bd hyp
        have f46 := a_Jg_compare er46 f23 
        rcases fr_if hyp with ⟨q, hyp⟩ | ⟨q, hyp⟩
        · cases hyp
          exact f46
        · exact a_Jg_work_133 ha hk4 hyp f46 (hx1)
theorem a_Jg_work_4 {b N : Nat} {C : Nat × Nat} {h0 : ag_H} {a : Nat} (ha : fr_ok b (some a)) : ∀ (n : Nat) (res : (Int32) × ag_H) (x1 : Option Nat) (x2 : Int32) (x3 : Int32) (h : ag_H) , fn_Jg_work_4 N C a n x1 x2 x3 h = some res → fr_H b h0 h → fr_ok b x1 → fr_H b h0 res.2 := by
  intro n
  induction n with
  | zero =>
    intro res x1 x2 x3 h hyp
    cases hyp
  | succ n ih =>
    intro res x1 x2 x3 h hyp hF hx1
    rw [fe_Jg_work_4] at hyp
    obtain ⟨g3, eg3, hyp⟩ := md_bd hyp
    rcases fr_if hyp with ⟨q, hyp⟩ | ⟨q, hyp⟩
    · cases hyp
      exact hF
    · obtain ⟨p9, ep9, hyp⟩ := md_bd hyp
      obtain ⟨q9, hyp⟩ := md_ifs hyp
      rcases fr_if hyp with ⟨q, hyp⟩ | ⟨q, hyp⟩
      · exact a_Jg_work_44 ha ih hyp hF (hx1)
      · rcases fr_if hyp with ⟨q, hyp⟩ | ⟨q, hyp⟩
        · exact a_Jg_work_44 ha ih hyp hF (hx1)
        · obtain ⟨g17, eg17, hyp⟩ := md_bd hyp
          obtain ⟨a21, ea21, hyp⟩ := md_bd hyp
          obtain ⟨r21, er21, hyp⟩ := md_bd hyp
          have f21 := a_Jg_valueOf er21 hF (fr_rc (ha) ea21) 
          obtain ⟨p22, ep22, hyp⟩ := md_bd hyp
          obtain ⟨q22, hyp⟩ := md_ifs hyp
          have hF22 : fr_H b h0 (ag_up r21.2 ((g17).getD 0) (.inl (0, p22.1, .inl (upd p22.2 (x2).toNatClampNeg (r21.1))))) := fr_ia f21 (fr_gr hF (ha) eg17) ep22
          exact a_Jg_work_133 ha ih hyp hF22 (hx1)
theorem a_Jg_work_0 {b N : Nat} {C : Nat × Nat} {h0 : ag_H} {a : Nat} (ha : fr_ok b (some a)) {x1 : Option Nat} {h : ag_H} {res : (Int32) × ag_H} (hyp : fn_Jg_work_0 N C a x1 h = some res) (hF : fr_H b h0 h) (hx1 : fr_ok b x1) : fr_H b h0 res.2 := by
  unfold fn_Jg_work_0 at hyp
  exact a_Jg_work_4 ha N _ _ _ _ _ hyp hF (hx1)
theorem a_Jg_work {b N : Nat} {C : Nat × Nat} {h0 : ag_H} {a : Nat} {p1 : Option Nat} {h : ag_H} {res : (Int32) × ag_H} (hyp : fn_Jg_work N C a p1 h = some res) (hF : fr_H b h0 h) (ha : fr_ok b (some a)) (hp1 : fr_ok b p1) : fr_H b h0 res.2 := a_Jg_work_0 ha hyp hF hp1
theorem a_Jg_finish_83 {b N : Nat} {C : Nat × Nat} {h0 : ag_H} {a : Nat} (ha : fr_ok b (some a)) {h : ag_H} {res : (Int32) × ag_H} (hyp : fn_Jg_finish_83 N C a h = some res) (hF : fr_H b h0 h) : fr_H b h0 res.2 := by
  unfold fn_Jg_finish_83 at hyp
  cases hyp
  exact hF
theorem a_Jg_finish_34 {b N : Nat} {C : Nat × Nat} {h0 : ag_H} {a : Nat} (ha : fr_ok b (some a)) {s0 : Option Nat} {s1 : Int32} {s2 : Int32} {h : ag_H} {res : (Int32) × ag_H} (hyp : fn_Jg_finish_34 N C a s0 s1 s2 h = some res) (hF : fr_H b h0 h) (hs0 : fr_ok b s0) : fr_H b h0 res.2 := by
  unfold fn_Jg_finish_34 at hyp
  obtain ⟨h2, eh2, hyp⟩ := md_bd hyp
  have hF2 : fr_H b h0 h2 := fr_pf hF (hs0) fr_vi eh2
  cases hyp
  exact hF2
theorem a_Jg_finish_0 {b N : Nat} {C : Nat × Nat} {h0 : ag_H} {a : Nat} (ha : fr_ok b (some a)) {x1 : Option Nat} {x2 : Int32} {h : ag_H} {res : (Int32) × ag_H} (hyp : fn_Jg_finish_0 N C a x1 x2 h = some res) (hF : fr_H b h0 h) (hx1 : fr_ok b x1) : fr_H b h0 res.2 := by
  unfold fn_Jg_finish_0 at hyp
  obtain ⟨g3, eg3, hyp⟩ := md_bd hyp
  obtain ⟨a4, ea4, hyp⟩ := md_bd hyp
  obtain ⟨r4, er4, hyp⟩ := md_bd hyp
  have f4 := a_Jg_work er4 hF (fr_rc (ha) ea4) (fr_gr hF (hx1) eg3)
  rcases fr_if hyp with ⟨q, hyp⟩ | ⟨q, hyp⟩
  · obtain ⟨h11, eh11, hyp⟩ := md_bd hyp
    have hF11 : fr_H b h0 h11 := fr_pf f4 (ha) fr_vi eh11
    obtain ⟨g13, eg13, hyp⟩ := md_bd hyp
    rcases fr_if hyp with ⟨q, hyp⟩ | ⟨q, hyp⟩
    · exact a_Jg_finish_83 ha hyp hF11
    · obtain ⟨g18, eg18, hyp⟩ := md_bd hyp
      obtain ⟨g22, eg22, hyp⟩ := md_bd hyp
      obtain ⟨a23, ea23, hyp⟩ := md_bd hyp
      obtain ⟨r23, er23, hyp⟩ := md_bd hyp
      have f23 := a_Jg_valueOf er23 hF11 (fr_rc (ha) ea23) 
      obtain ⟨g26, eg26, hyp⟩ := md_bd hyp
      obtain ⟨a27, ea27, hyp⟩ := md_bd hyp
      obtain ⟨r27, er27, hyp⟩ := md_bd hyp
      have f27 := a_Jg_valueOf er27 f23 (fr_rc (ha) ea27) 
      obtain ⟨a29, ea29, hyp⟩ := md_bd hyp
      obtain ⟨r29, er29, hyp⟩ := md_bd hyp
      have f29 := a_Fa_offer er29 f27 (fr_rc (fr_gr hF11 (ha) eg18) ea29) (fr_gr hF11 (hx1) eg13)
      exact a_Jg_finish_83 ha hyp f29 
  · obtain ⟨h32, eh32, hyp⟩ := md_bd hyp
    have hF32 : fr_H b h0 h32 := fr_pf f4 (ha) fr_vi eh32
    obtain ⟨g35, eg35, hyp⟩ := md_bd hyp
    rcases fr_if hyp with ⟨q, hyp⟩ | ⟨q, hyp⟩
    · exact a_Jg_finish_34 ha hyp hF32 (ha)
    · exact a_Jg_finish_34 ha hyp hF32 (ha)
theorem a_Jg_finish {b N : Nat} {C : Nat × Nat} {h0 : ag_H} {a : Nat} {p1 : Option Nat} {p2 : Int32} {h : ag_H} {res : (Int32) × ag_H} (hyp : fn_Jg_finish N C a p1 p2 h = some res) (hF : fr_H b h0 h) (ha : fr_ok b (some a)) (hp1 : fr_ok b p1) : fr_H b h0 res.2 := a_Jg_finish_0 ha hyp hF hp1
theorem a_Jg_fitTerm_44 {b N : Nat} {C : Nat × Nat} {h0 : ag_H} {a : Nat} (ha : fr_ok b (some a)) {s0 : Int32} {h : ag_H} {res : (Int32) × ag_H} (hyp : fn_Jg_fitTerm_44 N C a s0 h = some res) (hF : fr_H b h0 h) : fr_H b h0 res.2 := by
  unfold fn_Jg_fitTerm_44 at hyp
  cases hyp
  exact hF
theorem a_Jg_fitTerm_0 {b N : Nat} {C : Nat × Nat} {h0 : ag_H} {a : Nat} (ha : fr_ok b (some a)) {x1 : Int32} {x2 : Int32} {x3 : Int32} {h : ag_H} {res : (Int32) × ag_H} (hyp : fn_Jg_fitTerm_0 N C a x1 x2 x3 h = some res) (hF : fr_H b h0 h) : fr_H b h0 res.2 := by
  unfold fn_Jg_fitTerm_0 at hyp
  obtain ⟨r2, er2, hyp⟩ := md_bd hyp
  have f2 := a_At_bit er2 hF 
  rcases fr_if hyp with ⟨q, hyp⟩ | ⟨q, hyp⟩
  · obtain ⟨a12, ea12, hyp⟩ := md_bd hyp
    obtain ⟨r12, er12, hyp⟩ := md_bd hyp
    have f12 := a_Jg_valueOf er12 f2 (fr_rc (ha) ea12) 
    rcases fr_if hyp with ⟨q, hyp⟩ | ⟨q, hyp⟩
    · exact a_Jg_fitTerm_44 ha hyp f12
    · exact a_Jg_fitTerm_44 ha hyp f12
  · obtain ⟨g19, eg19, hyp⟩ := md_bd hyp
    obtain ⟨p24, ep24, hyp⟩ := md_bd hyp
    obtain ⟨q24, hyp⟩ := md_ifs hyp
    have hF24 : fr_H b h0 (ag_up r2.2 ((g19).getD 0) (.inl (0, p24.1, .inl (upd p24.2 ((x1) - ((1048576 : Int32))).toNatClampNeg (x2))))) := fr_ia f2 (fr_gr f2 (ha) eg19) ep24
    cases hyp
    exact hF24
theorem a_Jg_fitTerm {b N : Nat} {C : Nat × Nat} {h0 : ag_H} {a : Nat} {p1 : Int32} {p2 : Int32} {p3 : Int32} {h : ag_H} {res : (Int32) × ag_H} (hyp : fn_Jg_fitTerm N C a p1 p2 p3 h = some res) (hF : fr_H b h0 h) (ha : fr_ok b (some a)) : fr_H b h0 res.2 := a_Jg_fitTerm_0 ha hyp hF 
