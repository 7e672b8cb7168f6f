/-! frame: Ln_digits, Rd_readTerm, Rd_readAtom, At_bit, At_variables, AS_hugeLength, AS_newLength, AL_grow2, AL_grow, AL_add2, AL_add, Rd_addStep, Rd_readFactor -/
theorem a_Ln_digits_89 {b N : Nat} {C : Nat × Nat} {h0 : ag_H} {a : Nat} (ha : fr_ok b (some a)) {s0 : Int32} {h : ag_H} {res : (Int32) × ag_H} (hyp : fn_Ln_digits_89 N C a s0 h = some res) (hF : fr_H b h0 h) : fr_H b h0 res.2 := by
  unfold fn_Ln_digits_89 at hyp
  cases hyp
  exact hF
theorem a_Ln_digits_76 {b N : Nat} {C : Nat × Nat} {h0 : ag_H} {a : Nat} (ha : fr_ok b (some a)) {x1 : Int32} {x2 : Int32} {h : ag_H} {res : (Int32) × ag_H} (hyp : fn_Ln_digits_76 N C a x1 x2 h = some res) (hF : fr_H b h0 h) : fr_H b h0 res.2 := by
  unfold fn_Ln_digits_76 at hyp
  obtain ⟨g2, eg2, hyp⟩ := md_bd hyp
  rcases fr_if hyp with ⟨q, hyp⟩ | ⟨q, hyp⟩
  · exact a_Ln_digits_89 ha hyp hF
  · exact a_Ln_digits_89 ha hyp hF
theorem a_Ln_digits_9 {b N : Nat} {C : Nat × Nat} {h0 : ag_H} {a : Nat} (ha : fr_ok b (some a)) : ∀ (n : Nat) (res : (Int32) × ag_H) (x1 : Int32) (x2 : Int32) (x3 : Int32) (h : ag_H) , fn_Ln_digits_9 N C a n x1 x2 x3 h = some res → fr_H b h0 h → fr_H b h0 res.2 := by
  intro n
  induction n with
  | zero =>
    intro res x1 x2 x3 h hyp
    cases hyp
  | succ n ih =>
    intro res x1 x2 x3 h hyp hF 
    rw [fe_Ln_digits_9] at hyp
    obtain ⟨g3, eg3, hyp⟩ := md_bd hyp
    rcases fr_if hyp with ⟨q, hyp⟩ | ⟨q, hyp⟩
    · exact a_Ln_digits_76 ha hyp hF
    · obtain ⟨g6, eg6, hyp⟩ := md_bd hyp
      obtain ⟨p8, ep8, hyp⟩ := md_bd hyp
      obtain ⟨q8, hyp⟩ := md_ifs hyp
      rcases fr_if hyp with ⟨q, hyp⟩ | ⟨q, hyp⟩
      · exact a_Ln_digits_76 ha hyp hF
      · obtain ⟨g12, eg12, hyp⟩ := md_bd hyp
        obtain ⟨p14, ep14, hyp⟩ := md_bd hyp
        obtain ⟨q14, hyp⟩ := md_ifs hyp
        rcases fr_if hyp with ⟨q, hyp⟩ | ⟨q, hyp⟩
        · exact a_Ln_digits_76 ha hyp hF
        · rcases fr_if hyp with ⟨q, hyp⟩ | ⟨q, hyp⟩
          · obtain ⟨g26, eg26, hyp⟩ := md_bd hyp
            obtain ⟨p28, ep28, hyp⟩ := md_bd hyp
            obtain ⟨q28, hyp⟩ := md_ifs hyp
            obtain ⟨h37, eh37, hyp⟩ := md_bd hyp
            have hF37 : fr_H b h0 h37 := fr_pf hF (ha) fr_vi eh37
            exact ih _ _ _ _ _ hyp hF37 
          · cases hyp
            exact hF
theorem a_Ln_digits_0 {b N : Nat} {C : Nat × Nat} {h0 : ag_H} {a : Nat} (ha : fr_ok b (some a)) {h : ag_H} {res : (Int32) × ag_H} (hyp : fn_Ln_digits_0 N C a h = some res) (hF : fr_H b h0 h) : fr_H b h0 res.2 := by
  unfold fn_Ln_digits_0 at hyp
  obtain ⟨g4, eg4, hyp⟩ := md_bd hyp
  exact a_Ln_digits_9 ha N _ _ _ _ _ hyp hF 
theorem a_Ln_digits {b N : Nat} {C : Nat × Nat} {h0 : ag_H} {a : Nat} {h : ag_H} {res : (Int32) × ag_H} (hyp : fn_Ln_digits N C a h = some res) (hF : fr_H b h0 h) (ha : fr_ok b (some a)) : fr_H b h0 res.2 := a_Ln_digits_0 ha hyp hF 
theorem a_Rd_readTerm_59 {b N : Nat} {C : Nat × Nat} {h0 : ag_H} {s0 : Int32} {h : ag_H} {res : (Int32) × ag_H} (hyp : fn_Rd_readTerm_59 N C s0 h = some res) (hF : fr_H b h0 h) : fr_H b h0 res.2 := by
  unfold fn_Rd_readTerm_59 at hyp
  cases hyp
  exact hF
theorem a_Rd_readTerm_0 {b N : Nat} {C : Nat × Nat} {h0 : ag_H} {x0 : Option Nat} {h : ag_H} {res : (Int32) × ag_H} (hyp : fn_Rd_readTerm_0 N C x0 h = some res) (hF : fr_H b h0 h) (hx0 : fr_ok b x0) : fr_H b h0 res.2 := by
  unfold fn_Rd_readTerm_0 at hyp
  obtain ⟨a2, ea2, hyp⟩ := md_bd hyp
  obtain ⟨r2, er2, hyp⟩ := md_bd hyp
  have f2 := a_Ln_sign er2 hF (fr_rc (hx0) ea2) 
  obtain ⟨r5, er5, hyp⟩ := md_bd hyp
  have f5 := a_Rd_isVariable er5 f2 
  rcases fr_if hyp with ⟨q, hyp⟩ | ⟨q, hyp⟩
  · obtain ⟨a9, ea9, hyp⟩ := md_bd hyp
    obtain ⟨r9, er9, hyp⟩ := md_bd hyp
    have f9 := a_Ln_takes er9 f5 (fr_rc (hx0) ea9) 
    obtain ⟨a12, ea12, hyp⟩ := md_bd hyp
    obtain ⟨r12, er12, hyp⟩ := md_bd hyp
    have f12 := a_Ln_digits er12 f9 (fr_rc (hx0) ea12) 
    rcases fr_if hyp with ⟨q, hyp⟩ | ⟨q, hyp⟩
    · rcases fr_if hyp with ⟨q, hyp⟩ | ⟨q, hyp⟩
      · exact a_Rd_readTerm_59 hyp f12
      · exact a_Rd_readTerm_59 hyp f12
    · cases hyp
      exact f12
  · obtain ⟨g26, eg26, hyp⟩ := md_bd hyp
    obtain ⟨h29, eh29, hyp⟩ := md_bd hyp
    have hF29 : fr_H b h0 h29 := fr_pf f5 (hx0) fr_vi eh29
    cases hyp
    exact hF29
theorem a_Rd_readTerm {b N : Nat} {C : Nat × Nat} {h0 : ag_H} {p0 : Option Nat} {h : ag_H} {res : (Int32) × ag_H} (hyp : fn_Rd_readTerm N C p0 h = some res) (hF : fr_H b h0 h) (hp0 : fr_ok b p0) : fr_H b h0 res.2 := a_Rd_readTerm_0 hyp hF hp0
theorem a_Rd_readAtom_136 {b N : Nat} {C : Nat × Nat} {h0 : ag_H} {s0 : Option Nat} {h : ag_H} {res : (Option Nat) × ag_H} (hyp : fn_Rd_readAtom_136 N C s0 h = some res) (hF : fr_H b h0 h) (hs0 : fr_ok b s0) : fr_H b h0 res.2 ∧ fr_ok b res.1 := by
  unfold fn_Rd_readAtom_136 at hyp
  cases hyp
  exact ⟨hF, hs0⟩
theorem a_Rd_readAtom_135 {b N : Nat} {C : Nat × Nat} {h0 : ag_H} {h : ag_H} {res : (Option Nat) × ag_H} (hyp : fn_Rd_readAtom_135 N C h = some res) (hF : fr_H b h0 h) : fr_H b h0 res.2 ∧ fr_ok b res.1 := by
  unfold fn_Rd_readAtom_135 at hyp
  exact a_Rd_readAtom_136 hyp hF (fr_none)
theorem a_Rd_readAtom_102 {b N : Nat} {C : Nat × Nat} {h0 : ag_H} {x0 : Option Nat} {x2 : Int32} {x3 : Int32} {s0 : Int32} {h : ag_H} {res : (Option Nat) × ag_H} (hyp : fn_Rd_readAtom_102 N C x0 x2 x3 s0 h = some res) (hF : fr_H b h0 h) (hx0 : fr_ok b x0) : fr_H b h0 res.2 ∧ fr_ok b res.1 := by
  unfold fn_Rd_readAtom_102 at hyp
  rcases fr_if hyp with ⟨q, hyp⟩ | ⟨q, hyp⟩
  · exact a_Rd_readAtom_135 hyp hF
  · obtain ⟨a7, ea7, hyp⟩ := md_bd hyp
    obtain ⟨r7, er7, hyp⟩ := md_bd hyp
    have f7 := a_Ln_takes er7 hF (fr_rc (hx0) ea7) 
    rcases fr_if hyp with ⟨q, hyp⟩ | ⟨q, hyp⟩
    · exact a_Rd_readAtom_135 hyp f7
    · obtain ⟨q9, hyp⟩ := md_ifs hyp
      have hF9 : fr_H b h0 (ag_nw r7.2 4 (.inr (6, [.int 0, .int 0, .int 0, .int 0]))) := fr_nw f7 (fr_ob rfl)
      obtain ⟨r15, er15, hyp⟩ := md_bd hyp
      have f15 := a_At_init er15 hF9 (fr_new f7) 
      exact a_Rd_readAtom_136 hyp f15 (fr_new f7)
theorem a_Rd_readAtom_0 {b N : Nat} {C : Nat × Nat} {h0 : ag_H} {x0 : Option Nat} {h : ag_H} {res : (Option Nat) × ag_H} (hyp : fn_Rd_readAtom_0 N C x0 h = some res) (hF : fr_H b h0 h) (hx0 : fr_ok b x0) : fr_H b h0 res.2 ∧ fr_ok b res.1 := by
  unfold fn_Rd_readAtom_0 at hyp
  obtain ⟨a2, ea2, hyp⟩ := md_bd hyp
  obtain ⟨r2, er2, hyp⟩ := md_bd hyp
  have f2 := a_Ln_sign er2 hF (fr_rc (hx0) ea2) 
  obtain ⟨r5, er5, hyp⟩ := md_bd hyp
  have f5 := a_Rd_isName er5 f2 
  rcases fr_if hyp with ⟨q, hyp⟩ | ⟨q, hyp⟩
  · cases hyp
    exact ⟨f5, fr_none⟩
  · obtain ⟨g9, eg9, hyp⟩ := md_bd hyp
    obtain ⟨h12, eh12, hyp⟩ := md_bd hyp
    have hF12 : fr_H b h0 h12 := fr_pf f5 (hx0) fr_vi eh12
    obtain ⟨a19, ea19, hyp⟩ := md_bd hyp
    obtain ⟨r19, er19, hyp⟩ := md_bd hyp
    have f19 := a_Ln_takes er19 hF12 (fr_rc (hx0) ea19) 
    rcases fr_if hyp with ⟨q, hyp⟩ | ⟨q, hyp⟩
    · obtain ⟨q49, hyp⟩ := md_ifs hyp
      have hF49 : fr_H b h0 (ag_nw r19.2 4 (.inr (6, [.int 0, .int 0, .int 0, .int 0]))) := fr_nw f19 (fr_ob rfl)
      obtain ⟨r55, er55, hyp⟩ := md_bd hyp
      have f55 := a_At_init er55 hF49 (fr_new f19) 
      cases hyp
      exact ⟨f55, fr_new f19⟩
    · obtain ⟨r22, er22, hyp⟩ := md_bd hyp
      have f22 := a_Rd_readTerm er22 f19 (hx0)
      rcases fr_if hyp with ⟨q, hyp⟩ | ⟨q, hyp⟩
      · cases hyp
        exact ⟨f22, fr_none⟩
      · obtain ⟨a29, ea29, hyp⟩ := md_bd hyp
        obtain ⟨r29, er29, hyp⟩ := md_bd hyp
        have f29 := a_Ln_takes er29 f22 (fr_rc (hx0) ea29) 
        rcases fr_if hyp with ⟨q, hyp⟩ | ⟨q, hyp⟩
        · obtain ⟨a33, ea33, hyp⟩ := md_bd hyp
          obtain ⟨r33, er33, hyp⟩ := md_bd hyp
          have f33 := a_Ln_takes er33 f29 (fr_rc (hx0) ea33) 
          rcases fr_if hyp with ⟨q, hyp⟩ | ⟨q, hyp⟩
          · exact a_Rd_readAtom_102 hyp f33 (hx0)
          · obtain ⟨r37, er37, hyp⟩ := md_bd hyp
            have f37 := a_Rd_readTerm er37 f33 (hx0)
            exact a_Rd_readAtom_102 hyp f37 (hx0)
        · obtain ⟨q39, hyp⟩ := md_ifs hyp
          have hF39 : fr_H b h0 (ag_nw r29.2 4 (.inr (6, [.int 0, .int 0, .int 0, .int 0]))) := fr_nw f29 (fr_ob rfl)
          obtain ⟨r45, er45, hyp⟩ := md_bd hyp
          have f45 := a_At_init er45 hF39 (fr_new f29) 
          cases hyp
          exact ⟨f45, fr_new f29⟩
theorem a_Rd_readAtom {b N : Nat} {C : Nat × Nat} {h0 : ag_H} {p0 : Option Nat} {h : ag_H} {res : (Option Nat) × ag_H} (hyp : fn_Rd_readAtom N C p0 h = some res) (hF : fr_H b h0 h) (hp0 : fr_ok b p0) : fr_H b h0 res.2 ∧ fr_ok b res.1 := a_Rd_readAtom_0 hyp hF hp0
theorem a_At_bit_16 {b N : Nat} {C : Nat × Nat} {h0 : ag_H} {s0 : Int32} {h : ag_H} {res : (Int32) × ag_H} (hyp : fn_At_bit_16 N C s0 h = some res) (hF : fr_H b h0 h) : fr_H b h0 res.2 := by
  unfold fn_At_bit_16 at hyp
  cases hyp
  exact hF
theorem a_At_bit_0 {b N : Nat} {C : Nat × Nat} {h0 : ag_H} {x0 : Int32} {h : ag_H} {res : (Int32) × ag_H} (hyp : fn_At_bit_0 N C x0 h = some res) (hF : fr_H b h0 h) : fr_H b h0 res.2 := by
  unfold fn_At_bit_0 at hyp
  rcases fr_if hyp with ⟨q, hyp⟩ | ⟨q, hyp⟩
  · exact a_At_bit_16 hyp hF
  · exact a_At_bit_16 hyp hF
theorem a_At_bit {b N : Nat} {C : Nat × Nat} {h0 : ag_H} {p0 : Int32} {h : ag_H} {res : (Int32) × ag_H} (hyp : fn_At_bit N C p0 h = some res) (hF : fr_H b h0 h) : fr_H b h0 res.2 := a_At_bit_0 hyp hF 
theorem a_At_variables_0 {b N : Nat} {C : Nat × Nat} {h0 : ag_H} {a : Nat} (ha : fr_ok b (some a)) {h : ag_H} {res : (Int32) × ag_H} (hyp : fn_At_variables_0 N C a h = some res) (hF : fr_H b h0 h) : fr_H b h0 res.2 := by
  unfold fn_At_variables_0 at hyp
  obtain ⟨g2, eg2, hyp⟩ := md_bd hyp
  obtain ⟨r3, er3, hyp⟩ := md_bd hyp
  have f3 := a_At_bit er3 hF 
  obtain ⟨g5, eg5, hyp⟩ := md_bd hyp
  obtain ⟨r6, er6, hyp⟩ := md_bd hyp
  have f6 := a_At_bit er6 f3 
  cases hyp
  exact f6
theorem a_At_variables {b N : Nat} {C : Nat × Nat} {h0 : ag_H} {a : Nat} {h : ag_H} {res : (Int32) × ag_H} (hyp : fn_At_variables N C a h = some res) (hF : fr_H b h0 h) (ha : fr_ok b (some a)) : fr_H b h0 res.2 := a_At_variables_0 ha hyp hF 
theorem a_AS_hugeLength_0 {b N : Nat} {C : Nat × Nat} {h0 : ag_H} {x0 : Int32} {x1 : Int32} {h : ag_H} {res : (Int32) × ag_H} (hyp : fn_AS_hugeLength_0 N C x0 x1 h = some res) (hF : fr_H b h0 h) : fr_H b h0 res.2 := by
  unfold fn_AS_hugeLength_0 at hyp
  rcases fr_if hyp with ⟨q, hyp⟩ | ⟨q, hyp⟩
  · rcases fr_if hyp with ⟨q, hyp⟩ | ⟨q, hyp⟩
    · cases hyp
      exact hF
    · cases hyp
      exact hF
  · cases hyp
theorem a_AS_hugeLength {b N : Nat} {C : Nat × Nat} {h0 : ag_H} {p0 : Int32} {p1 : Int32} {h : ag_H} {res : (Int32) × ag_H} (hyp : fn_AS_hugeLength N C p0 p1 h = some res) (hF : fr_H b h0 h) : fr_H b h0 res.2 := a_AS_hugeLength_0 hyp hF 
theorem a_AS_newLength_21 {b N : Nat} {C : Nat × Nat} {h0 : ag_H} {x0 : Int32} {x1 : Int32} {h : ag_H} {res : (Int32) × ag_H} (hyp : fn_AS_newLength_21 N C x0 x1 h = some res) (hF : fr_H b h0 h) : fr_H b h0 res.2 := by
  unfold fn_AS_newLength_21 at hyp
  obtain ⟨r3, er3, hyp⟩ := md_bd hyp
  have f3 := a_AS_hugeLength er3 hF 
  cases hyp
  exact f3
theorem a_AS_newLength_0 {b N : Nat} {C : Nat × Nat} {h0 : ag_H} {x0 : Int32} {x1 : Int32} {x2 : Int32} {h : ag_H} {res : (Int32) × ag_H} (hyp : fn_AS_newLength_0 N C x0 x1 x2 h = some res) (hF : fr_H b h0 h) : fr_H b h0 res.2 := by
  unfold fn_AS_newLength_0 at hyp
  rcases fr_if hyp with ⟨q, hyp⟩ | ⟨q, hyp⟩
  · exact a_AS_newLength_21 hyp hF
  · rcases fr_if hyp with ⟨q, hyp⟩ | ⟨q, hyp⟩
    · exact a_AS_newLength_21 hyp hF
    · cases hyp
      exact hF
theorem a_AS_newLength {b N : Nat} {C : Nat × Nat} {h0 : ag_H} {p0 : Int32} {p1 : Int32} {p2 : Int32} {h : ag_H} {res : (Int32) × ag_H} (hyp : fn_AS_newLength N C p0 p1 p2 h = some res) (hF : fr_H b h0 h) : fr_H b h0 res.2 := a_AS_newLength_0 hyp hF 
theorem a_AL_grow2_20 {b N : Nat} {C : Nat × Nat} {h0 : ag_H} {a : Nat} (ha : fr_ok b (some a)) {x1 : Int32} {x2 : Int32} {h : ag_H} {res : (Option Nat) × ag_H} (hyp : fn_AL_grow2_20 N C a x1 x2 h = some res) (hF : fr_H b h0 h) : fr_H b h0 res.2 ∧ fr_ok b res.1 := by
  unfold fn_AL_grow2_20 at hyp
  obtain ⟨r8, er8, hyp⟩ := md_bd hyp
  have f8 := a_AS_newLength er8 hF 
  obtain ⟨g12, eg12, hyp⟩ := md_bd hyp
  obtain ⟨r14, er14, hyp⟩ := md_bd hyp
  have f14 := a_Ar_copyOf er14 f8 (fr_gr f8 (ha) eg12)
  obtain ⟨h16, eh16, hyp⟩ := md_bd hyp
  have hF16 : fr_H b h0 h16 := fr_pf f14.1 (ha) (fr_vr (r := (r14.1)) (f14.2)) eh16
  cases hyp
  exact ⟨hF16, f14.2⟩
theorem a_AL_grow2_0 {b N : Nat} {C : Nat × Nat} {h0 : ag_H} {a : Nat} (ha : fr_ok b (some a)) {x1 : Int32} {h : ag_H} {res : (Option Nat) × ag_H} (hyp : fn_AL_grow2_0 N C a x1 h = some res) (hF : fr_H b h0 h) : fr_H b h0 res.2 ∧ fr_ok b res.1 := by
  unfold fn_AL_grow2_0 at hyp
  obtain ⟨g2, eg2, hyp⟩ := md_bd hyp
  obtain ⟨g3, eg3, hyp⟩ := md_bd hyp
  rcases fr_if hyp with ⟨q, hyp⟩ | ⟨q, hyp⟩
  · exact a_AL_grow2_20 ha hyp hF
  · obtain ⟨g8, eg8, hyp⟩ := md_bd hyp
    obtain ⟨q10, hyp⟩ := md_ifs hyp
    rcases fr_if hyp with ⟨q, hyp⟩ | ⟨q, hyp⟩
    · obtain ⟨q15, hyp⟩ := md_ifs hyp
      have hF15 : fr_H b h0 (ag_nw h (if ((Int8.ofInt (10)).toInt32) < (x1) then (x1) else ((Int8.ofInt (10)).toInt32)).toNatClampNeg (.inl (4, (if ((Int8.ofInt (10)).toInt32) < (x1) then (x1) else ((Int8.ofInt (10)).toInt32)).toNatClampNeg, .inr (.inr (.inr (.inr (fun _ => none))))))) := fr_nw hF (fun _ => fr_none)
      obtain ⟨h17, eh17, hyp⟩ := md_bd hyp
      have hF17 : fr_H b h0 h17 := fr_pf hF15 (ha) (fr_vr (r := (some (h.1))) (fr_new hF)) eh17
      cases hyp
      exact ⟨hF17, fr_new hF⟩
    · exact a_AL_grow2_20 ha hyp hF
theorem a_AL_grow2 {b N : Nat} {C : Nat × Nat} {h0 : ag_H} {a : Nat} {p1 : Int32} {h : ag_H} {res : (Option Nat) × ag_H} (hyp : fn_AL_grow2 N C a p1 h = some res) (hF : fr_H b h0 h) (ha : fr_ok b (some a)) : fr_H b h0 res.2 ∧ fr_ok b res.1 := a_AL_grow2_0 ha hyp hF 
theorem a_AL_grow_0 {b N : Nat} {C : Nat × Nat} {h0 : ag_H} {a : Nat} (ha : fr_ok b (some a)) {h : ag_H} {res : (Option Nat) × ag_H} (hyp : fn_AL_grow_0 N C a h = some res) (hF : fr_H b h0 h) : fr_H b h0 res.2 ∧ fr_ok b res.1 := by
  unfold fn_AL_grow_0 at hyp
  obtain ⟨g3, eg3, hyp⟩ := md_bd hyp
  obtain ⟨a6, ea6, hyp⟩ := md_bd hyp
  obtain ⟨r6, er6, hyp⟩ := md_bd hyp
  have f6 := a_AL_grow2 er6 hF (fr_rc (ha) ea6) 
  cases hyp
  exact ⟨f6.1, f6.2⟩
theorem a_AL_grow {b N : Nat} {C : Nat × Nat} {h0 : ag_H} {a : Nat} {h : ag_H} {res : (Option Nat) × ag_H} (hyp : fn_AL_grow N C a h = some res) (hF : fr_H b h0 h) (ha : fr_ok b (some a)) : fr_H b h0 res.2 ∧ fr_ok b res.1 := a_AL_grow_0 ha hyp hF 
theorem a_AL_add2_11 {b N : Nat} {C : Nat × Nat} {h0 : ag_H} {a : Nat} (ha : fr_ok b (some a)) {x1 : Option Nat} {x2 : Option Nat} {x3 : Int32} {h : ag_H} {res : (Int32) × ag_H} (hyp : fn_AL_add2_11 N C a x1 x2 x3 h = some res) (hF : fr_H b h0 h) (hx1 : fr_ok b x1) (hx2 : fr_ok b x2) : fr_H b h0 res.2 := by
  unfold fn_AL_add2_11 at hyp
  obtain ⟨h4, eh4, hyp⟩ := md_bd hyp
  have hF4 : fr_H b h0 h4 := fr_as hF (hx2) (hx1) eh4
  obtain ⟨h9, eh9, hyp⟩ := md_bd hyp
  have hF9 : fr_H b h0 h9 := fr_pf hF4 (ha) fr_vi eh9
  cases hyp
  exact hF9
theorem a_AL_add2_0 {b N : Nat} {C : Nat × Nat} {h0 : ag_H} {a : Nat} (ha : fr_ok b (some a)) {x1 : Option Nat} {x2 : Option Nat} {x3 : Int32} {h : ag_H} {res : (Int32) × ag_H} (hyp : fn_AL_add2_0 N C a x1 x2 x3 h = some res) (hF : fr_H b h0 h) (hx1 : fr_ok b x1) (hx2 : fr_ok b x2) : fr_H b h0 res.2 := by
  unfold fn_AL_add2_0 at hyp
  obtain ⟨g3, eg3, hyp⟩ := md_bd hyp
  rcases fr_if hyp with ⟨q, hyp⟩ | ⟨q, hyp⟩
  · obtain ⟨a6, ea6, hyp⟩ := md_bd hyp
    obtain ⟨r6, er6, hyp⟩ := md_bd hyp
    have f6 := a_AL_grow er6 hF (fr_rc (ha) ea6) 
    exact a_AL_add2_11 ha hyp f6.1 (hx1) (f6.2)
  · exact a_AL_add2_11 ha hyp hF (hx1) (hx2)
theorem a_AL_add2 {b N : Nat} {C : Nat × Nat} {h0 : ag_H} {a : Nat} {p1 : Option Nat} {p2 : Option Nat} {p3 : Int32} {h : ag_H} {res : (Int32) × ag_H} (hyp : fn_AL_add2 N C a p1 p2 p3 h = some res) (hF : fr_H b h0 h) (ha : fr_ok b (some a)) (hp1 : fr_ok b p1) (hp2 : fr_ok b p2) : fr_H b h0 res.2 := a_AL_add2_0 ha hyp hF hp1 hp2
theorem a_AL_add_0 {b N : Nat} {C : Nat × Nat} {h0 : ag_H} {a : Nat} (ha : fr_ok b (some a)) {x1 : Option Nat} {h : ag_H} {res : (Int32) × ag_H} (hyp : fn_AL_add_0 N C a x1 h = some res) (hF : fr_H b h0 h) (hx1 : fr_ok b x1) : fr_H b h0 res.2 := by
  unfold fn_AL_add_0 at hyp
  obtain ⟨g3, eg3, hyp⟩ := md_bd hyp
  obtain ⟨h6, eh6, hyp⟩ := md_bd hyp
  have hF6 : fr_H b h0 h6 := fr_pf hF (ha) fr_vi eh6
  obtain ⟨g10, eg10, hyp⟩ := md_bd hyp
  obtain ⟨g12, eg12, hyp⟩ := md_bd hyp
  obtain ⟨a13, ea13, hyp⟩ := md_bd hyp
  obtain ⟨r13, er13, hyp⟩ := md_bd hyp
  have f13 := a_AL_add2 er13 hF6 (fr_rc (ha) ea13) (hx1) (fr_gr hF6 (ha) eg10)
  obtain ⟨q15, hyp⟩ := md_ifs hyp
  cases hyp
  exact f13
theorem a_AL_add {b N : Nat} {C : Nat × Nat} {h0 : ag_H} {a : Nat} {p1 : Option Nat} {h : ag_H} {res : (Int32) × ag_H} (hyp : fn_AL_add N C a p1 h = some res) (hF : fr_H b h0 h) (ha : fr_ok b (some a)) (hp1 : fr_ok b p1) : fr_H b h0 res.2 := a_AL_add_0 ha hyp hF hp1
theorem a_Rd_addStep_0 {b N : Nat} {C : Nat × Nat} {h0 : ag_H} {a : Nat} (ha : fr_ok b (some a)) {x1 : Int32} {h : ag_H} {res : (Int32) × ag_H} (hyp : fn_Rd_addStep_0 N C a x1 h = some res) (hF : fr_H b h0 h) : fr_H b h0 res.2 := by
  unfold fn_Rd_addStep_0 at hyp
  obtain ⟨g2, eg2, hyp⟩ := md_bd hyp
  rcases fr_if hyp with ⟨q, hyp⟩ | ⟨q, hyp⟩
  · obtain ⟨g6, eg6, hyp⟩ := md_bd hyp
    obtain ⟨g8, eg8, hyp⟩ := md_bd hyp
    obtain ⟨p10, ep10, hyp⟩ := md_bd hyp
    obtain ⟨q10, hyp⟩ := md_ifs hyp
    have hF10 : fr_H b h0 (ag_up h ((g6).getD 0) (.inl (0, p10.1, .inl (upd p10.2 (g8).toNatClampNeg (x1))))) := fr_ia hF (fr_gr hF (ha) eg6) ep10
    obtain ⟨g13, eg13, hyp⟩ := md_bd hyp
    obtain ⟨h16, eh16, hyp⟩ := md_bd hyp
    have hF16 : fr_H b h0 h16 := fr_pf hF10 (ha) fr_vi eh16
    obtain ⟨q18, hyp⟩ := md_ifs hyp
    cases hyp
    exact hF16
  · obtain ⟨q20, hyp⟩ := md_ifs hyp
    cases hyp
    exact hF
theorem a_Rd_addStep {b N : Nat} {C : Nat × Nat} {h0 : ag_H} {a : Nat} {p1 : Int32} {h : ag_H} {res : (Int32) × ag_H} (hyp : fn_Rd_addStep N C a p1 h = some res) (hF : fr_H b h0 h) (ha : fr_ok b (some a)) : fr_H b h0 res.2 := a_Rd_addStep_0 ha hyp hF 
theorem a_Rd_readFactor_129 {b N : Nat} {C : Nat × Nat} {h0 : ag_H} {a : Nat} (ha : fr_ok b (some a)) {kR : Nat → Option Nat → Int32 → ag_H → Option ((Int32) × ag_H)} (hkR : ∀ (ua : Nat) (u0 : Option Nat) (u1 : Int32) (hh : ag_H) (res : (Int32) × ag_H), kR ua u0 u1 hh = some res → fr_H b h0 hh → fr_ok b (some ua) → fr_ok b u0 → fr_H b h0 res.2) {s0 : Int32} {h : ag_H} {res : (Int32) × ag_H} (hyp : fn_Rd_readFactor_129 N C kR a s0 h = some res) (hF : fr_H b h0 h) : fr_H b h0 res.2 := by
  unfold fn_Rd_readFactor_129 at hyp
  obtain ⟨q1, hyp⟩ := md_ifs hyp
  cases hyp
  exact hF
theorem a_Rd_readFactor_128 {b N : Nat} {C : Nat × Nat} {h0 : ag_H} {a : Nat} (ha : fr_ok b (some a)) {kR : Nat → Option Nat → Int32 → ag_H → Option ((Int32) × ag_H)} (hkR : ∀ (ua : Nat) (u0 : Option Nat) (u1 : Int32) (hh : ag_H) (res : (Int32) × ag_H), kR ua u0 u1 hh = some res → fr_H b h0 hh → fr_ok b (some ua) → fr_ok b u0 → fr_H b h0 res.2) {h : ag_H} {res : (Int32) × ag_H} (hyp : fn_Rd_readFactor_128 N C kR a h = some res) (hF : fr_H b h0 h) : fr_H b h0 res.2 := by
  unfold fn_Rd_readFactor_128 at hyp
  exact a_Rd_readFactor_129 ha hkR hyp hF 
theorem a_Rd_readFactor_46 {b N : Nat} {C : Nat × Nat} {h0 : ag_H} {a : Nat} (ha : fr_ok b (some a)) {kR : Nat → Option Nat → Int32 → ag_H → Option ((Int32) × ag_H)} (hkR : ∀ (ua : Nat) (u0 : Option Nat) (u1 : Int32) (hh : ag_H) (res : (Int32) × ag_H), kR ua u0 u1 hh = some res → fr_H b h0 hh → fr_ok b (some ua) → fr_ok b u0 → fr_H b h0 res.2) {h : ag_H} {res : (Int32) × ag_H} (hyp : fn_Rd_readFactor_46 N C kR a h = some res) (hF : fr_H b h0 h) : fr_H b h0 res.2 := by
  unfold fn_Rd_readFactor_46 at hyp
  obtain ⟨q2, hyp⟩ := md_ifs hyp
  cases hyp
  exact hF
theorem a_Rd_readFactor_0 {b N : Nat} {C : Nat × Nat} {h0 : ag_H} {a : Nat} (ha : fr_ok b (some a)) {kR : Nat → Option Nat → Int32 → ag_H → Option ((Int32) × ag_H)} (hkR : ∀ (ua : Nat) (u0 : Option Nat) (u1 : Int32) (hh : ag_H) (res : (Int32) × ag_H), kR ua u0 u1 hh = some res → fr_H b h0 hh → fr_ok b (some ua) → fr_ok b u0 → fr_H b h0 res.2) {x1 : Option Nat} {x2 : Int32} {h : ag_H} {res : (Int32) × ag_H} (hyp : fn_Rd_readFactor_0 N C kR a x1 x2 h = some res) (hF : fr_H b h0 h) (hx1 : fr_ok b x1) : fr_H b h0 res.2 := by
  unfold fn_Rd_readFactor_0 at hyp
  obtain ⟨a2, ea2, hyp⟩ := md_bd hyp
  obtain ⟨r2, er2, hyp⟩ := md_bd hyp
  have f2 := a_Ln_sign er2 hF (fr_rc (hx1) ea2) 
  rcases fr_if hyp with ⟨q, hyp⟩ | ⟨q, hyp⟩
  · obtain ⟨g47, eg47, hyp⟩ := md_bd hyp
    obtain ⟨h50, eh50, hyp⟩ := md_bd hyp
    have hF50 : fr_H b h0 h50 := fr_pf f2 (hx1) fr_vi eh50
    rcases fr_if hyp with ⟨q, hyp⟩ | ⟨q, hyp⟩
    · exact a_Rd_readFactor_46 ha hkR hyp hF50
    · obtain ⟨a59, ea59, hyp⟩ := md_bd hyp
      obtain ⟨r59, er59, hyp⟩ := md_bd hyp
      have f59 := hkR _ _ _ _ _ er59 hF50 (fr_rc (ha) ea59) (hx1)
      rcases fr_if hyp with ⟨q, hyp⟩ | ⟨q, hyp⟩
      · exact a_Rd_readFactor_46 ha hkR hyp f59
      · obtain ⟨a62, ea62, hyp⟩ := md_bd hyp
        obtain ⟨r62, er62, hyp⟩ := md_bd hyp
        have f62 := a_Ln_sign er62 f59 (fr_rc (hx1) ea62) 
        rcases fr_if hyp with ⟨q, hyp⟩ | ⟨q, hyp⟩
        · obtain ⟨g67, eg67, hyp⟩ := md_bd hyp
          obtain ⟨h70, eh70, hyp⟩ := md_bd hyp
          have hF70 : fr_H b h0 h70 := fr_pf f62 (hx1) fr_vi eh70
          obtain ⟨q72, hyp⟩ := md_ifs hyp
          cases hyp
          exact hF70
        · exact a_Rd_readFactor_46 ha hkR hyp f62
  · obtain ⟨r8, er8, hyp⟩ := md_bd hyp
    have f8 := a_Rd_isVariable er8 f2 
    rcases fr_if hyp with ⟨q, hyp⟩ | ⟨q, hyp⟩
    · obtain ⟨a11, ea11, hyp⟩ := md_bd hyp
      obtain ⟨r11, er11, hyp⟩ := md_bd hyp
      have f11 := a_Ln_digits er11 f8 (fr_rc (hx1) ea11) 
      rcases fr_if hyp with ⟨q, hyp⟩ | ⟨q, hyp⟩
      · exact a_Rd_readFactor_128 ha hkR hyp f11
      · obtain ⟨a17, ea17, hyp⟩ := md_bd hyp
        obtain ⟨r17, er17, hyp⟩ := md_bd hyp
        have f17 := a_Rd_addStep er17 f11 (fr_rc (ha) ea17) 
        rcases fr_if hyp with ⟨q, hyp⟩ | ⟨q, hyp⟩
        · exact a_Rd_readFactor_128 ha hkR hyp f17
        · exact a_Rd_readFactor_129 ha hkR hyp f17
    · obtain ⟨g23, eg23, hyp⟩ := md_bd hyp
      obtain ⟨h26, eh26, hyp⟩ := md_bd hyp
      have hF26 : fr_H b h0 h26 := fr_pf f8 (hx1) fr_vi eh26
      obtain ⟨g29, eg29, hyp⟩ := md_bd hyp
      obtain ⟨h36, eh36, hyp⟩ := md_bd hyp
      have hF36 : fr_H b h0 h36 := fr_pf hF26 (ha) fr_vi eh36
      obtain ⟨a43, ea43, hyp⟩ := md_bd hyp
      obtain ⟨r43, er43, hyp⟩ := md_bd hyp
      have f43 := a_Rd_addStep er43 hF36 (fr_rc (ha) ea43) 
      obtain ⟨q44, hyp⟩ := md_ifs hyp
      cases hyp
      exact f43
theorem a_Rd_readFactor {b N : Nat} {C : Nat × Nat} {h0 : ag_H} {kR : Nat → Option Nat → Int32 → ag_H → Option ((Int32) × ag_H)} (hkR : ∀ (ua : Nat) (u0 : Option Nat) (u1 : Int32) (hh : ag_H) (res : (Int32) × ag_H), kR ua u0 u1 hh = some res → fr_H b h0 hh → fr_ok b (some ua) → fr_ok b u0 → fr_H b h0 res.2) {a : Nat} {p1 : Option Nat} {p2 : Int32} {h : ag_H} {res : (Int32) × ag_H} (hyp : fn_Rd_readFactor N C kR a p1 p2 h = some res) (hF : fr_H b h0 h) (ha : fr_ok b (some a)) (hp1 : fr_ok b p1) : fr_H b h0 res.2 := a_Rd_readFactor_0 ha hkR hyp hF hp1
