/-! frame: GC_desk, GC_isRoot, Tk_init, GC_newKey, Lk_init, Tk_openWith, GC_keep, GC_keepWithNewLink, GC_issue, GC_isToken, Pr_checkIndex, Ob_checkIndex, AL_elementData, AL_get, Tk_copy, GC_append, GC_seal, GC_canTamper, AL_fastRemove, AL_remove, Tk_cutTo -/
theorem a_GC_desk_0 {b N : Nat} {C : Nat × Nat} {h0 : ag_H} {a : Nat} (ha : fr_ok b (some a)) {h : ag_H} {res : (Int32 ⊕ Nat) × ag_H} (hyp : fn_GC_desk_0 N C a h = some res) (hF : fr_H b h0 h) : fr_H b h0 res.2 := by
  unfold fn_GC_desk_0 at hyp
  obtain ⟨g2, eg2, hyp⟩ := md_bd hyp
  obtain ⟨g4, eg4, hyp⟩ := md_bd hyp
  obtain ⟨a5, ea5, hyp⟩ := md_bd hyp
  obtain ⟨r5, er5, hyp⟩ := md_bd hyp
  have f5 := a_Rd_read er5 hF (fr_rc (fr_gr hF (ha) eg2) ea5) (fr_gr hF (ha) eg4)
  rcases fr_if hyp with ⟨q, hyp⟩ | ⟨q, hyp⟩
  · obtain ⟨q22, hyp⟩ := md_ifs hyp
    cases hyp
    exact fr_nw f5.1 (fr_ob rfl)
  · obtain ⟨g10, eg10, hyp⟩ := md_bd hyp
    obtain ⟨g11, eg11, hyp⟩ := md_bd hyp
    obtain ⟨a12, ea12, hyp⟩ := md_bd hyp
    obtain ⟨r12, er12, hyp⟩ := md_bd hyp
    have f12 := a_AL_size er12 f5.1 (fr_rc (fr_gr f5.1 (fr_gr f5.1 (ha) eg10) eg11) ea12) 
    rcases fr_if hyp with ⟨q, hyp⟩ | ⟨q, hyp⟩
    · obtain ⟨g18, eg18, hyp⟩ := md_bd hyp
      obtain ⟨a19, ea19, hyp⟩ := md_bd hyp
      obtain ⟨r19, er19, hyp⟩ := md_bd hyp
      have f19 := a_GC_moveLine er19 f12 (fr_rc (ha) ea19) (f5.2) (fr_gr f12 (ha) eg18)
      cases hyp
      exact f19
    · obtain ⟨q21, hyp⟩ := md_ifs hyp
      cases hyp
      exact fr_nw f12 (fr_ob rfl)
theorem a_GC_desk {b N : Nat} {C : Nat × Nat} {h0 : ag_H} {a : Nat} {h : ag_H} {res : (Int32 ⊕ Nat) × ag_H} (hyp : fn_GC_desk N C a h = some res) (hF : fr_H b h0 h) (ha : fr_ok b (some a)) : fr_H b h0 res.2 := a_GC_desk_0 ha hyp hF 
theorem a_GC_isRoot_15 {b N : Nat} {C : Nat × Nat} {h0 : ag_H} {s0 : Int32} {h : ag_H} {res : (Int32) × ag_H} (hyp : fn_GC_isRoot_15 N C s0 h = some res) (hF : fr_H b h0 h) : fr_H b h0 res.2 := by
  unfold fn_GC_isRoot_15 at hyp
  obtain ⟨q1, hyp⟩ := md_ifs hyp
  cases hyp
  exact hF
theorem a_GC_isRoot_14 {b N : Nat} {C : Nat × Nat} {h0 : ag_H} {h : ag_H} {res : (Int32) × ag_H} (hyp : fn_GC_isRoot_14 N C h = some res) (hF : fr_H b h0 h) : fr_H b h0 res.2 := by
  unfold fn_GC_isRoot_14 at hyp
  exact a_GC_isRoot_15 hyp hF 
theorem a_GC_isRoot_0 {b N : Nat} {C : Nat × Nat} {h0 : ag_H} {x0 : Int32} {h : ag_H} {res : (Int32) × ag_H} (hyp : fn_GC_isRoot_0 N C x0 h = some res) (hF : fr_H b h0 h) : fr_H b h0 res.2 := by
  unfold fn_GC_isRoot_0 at hyp
  rcases fr_if hyp with ⟨q, hyp⟩ | ⟨q, hyp⟩
  · exact a_GC_isRoot_14 hyp hF
  · rcases fr_if hyp with ⟨q, hyp⟩ | ⟨q, hyp⟩
    · exact a_GC_isRoot_14 hyp hF
    · exact a_GC_isRoot_15 hyp hF
theorem a_GC_isRoot {b N : Nat} {C : Nat × Nat} {h0 : ag_H} {p0 : Int32} {h : ag_H} {res : (Int32) × ag_H} (hyp : fn_GC_isRoot N C p0 h = some res) (hF : fr_H b h0 h) : fr_H b h0 res.2 := a_GC_isRoot_0 hyp hF 
theorem a_Tk_init_0 {b N : Nat} {C : Nat × Nat} {h0 : ag_H} {a : Nat} (ha : fr_ok b (some a)) {h : ag_H} {res : (Int32) × ag_H} (hyp : fn_Tk_init_0 N C a h = some res) (hF : fr_H b h0 h) : fr_H b h0 res.2 := by
  unfold fn_Tk_init_0 at hyp
  obtain ⟨q4, hyp⟩ := md_ifs hyp
  have hF4 : fr_H b h0 (ag_nw h 3 (.inr (11, [.null, .int 0, .int 0]))) := fr_nw hF (fr_ob rfl)
  obtain ⟨r6, er6, hyp⟩ := md_bd hyp
  have f6 := a_AL_init er6 hF4 (fr_new hF) 
  obtain ⟨h7, eh7, hyp⟩ := md_bd hyp
  have hF7 : fr_H b h0 h7 := fr_pf f6 (ha) (fr_vr (r := (some (h.1))) (fr_new hF)) eh7
  cases hyp
  exact hF7
theorem a_Tk_init {b N : Nat} {C : Nat × Nat} {h0 : ag_H} {a : Nat} {h : ag_H} {res : (Int32) × ag_H} (hyp : fn_Tk_init N C a h = some res) (hF : fr_H b h0 h) (ha : fr_ok b (some a)) : fr_H b h0 res.2 := a_Tk_init_0 ha hyp hF 
theorem a_GC_newKey_0 {b N : Nat} {C : Nat × Nat} {h0 : ag_H} {a : Nat} (ha : fr_ok b (some a)) {h : ag_H} {res : (Int32) × ag_H} (hyp : fn_GC_newKey_0 N C a h = some res) (hF : fr_H b h0 h) : fr_H b h0 res.2 := by
  unfold fn_GC_newKey_0 at hyp
  obtain ⟨g3, eg3, hyp⟩ := md_bd hyp
  obtain ⟨h6, eh6, hyp⟩ := md_bd hyp
  have hF6 : fr_H b h0 h6 := fr_pf hF (ha) fr_vi eh6
  obtain ⟨g8, eg8, hyp⟩ := md_bd hyp
  cases hyp
  exact hF6
theorem a_GC_newKey {b N : Nat} {C : Nat × Nat} {h0 : ag_H} {a : Nat} {h : ag_H} {res : (Int32) × ag_H} (hyp : fn_GC_newKey N C a h = some res) (hF : fr_H b h0 h) (ha : fr_ok b (some a)) : fr_H b h0 res.2 := a_GC_newKey_0 ha hyp hF 
theorem a_Lk_init_0 {b N : Nat} {C : Nat × Nat} {h0 : ag_H} {a : Nat} (ha : fr_ok b (some a)) {x1 : Int32} {x2 : Int32} {x3 : Int32} {x4 : Int32} {x5 : Int32} {h : ag_H} {res : (Int32) × ag_H} (hyp : fn_Lk_init_0 N C a x1 x2 x3 x4 x5 h = some res) (hF : fr_H b h0 h) : fr_H b h0 res.2 := by
  unfold fn_Lk_init_0 at hyp
  obtain ⟨h5, eh5, hyp⟩ := md_bd hyp
  have hF5 : fr_H b h0 h5 := fr_pf hF (ha) fr_vi eh5
  obtain ⟨h8, eh8, hyp⟩ := md_bd hyp
  have hF8 : fr_H b h0 h8 := fr_pf hF5 (ha) fr_vi eh8
  obtain ⟨h11, eh11, hyp⟩ := md_bd hyp
  have hF11 : fr_H b h0 h11 := fr_pf hF8 (ha) fr_vi eh11
  obtain ⟨h14, eh14, hyp⟩ := md_bd hyp
  have hF14 : fr_H b h0 h14 := fr_pf hF11 (ha) fr_vi eh14
  obtain ⟨h17, eh17, hyp⟩ := md_bd hyp
  have hF17 : fr_H b h0 h17 := fr_pf hF14 (ha) fr_vi eh17
  cases hyp
  exact hF17
theorem a_Lk_init {b N : Nat} {C : Nat × Nat} {h0 : ag_H} {a : Nat} {p1 : Int32} {p2 : Int32} {p3 : Int32} {p4 : Int32} {p5 : Int32} {h : ag_H} {res : (Int32) × ag_H} (hyp : fn_Lk_init N C a p1 p2 p3 p4 p5 h = some res) (hF : fr_H b h0 h) (ha : fr_ok b (some a)) : fr_H b h0 res.2 := a_Lk_init_0 ha hyp hF 
theorem a_Tk_openWith_0 {b N : Nat} {C : Nat × Nat} {h0 : ag_H} {a : Nat} (ha : fr_ok b (some a)) {x1 : Int32} {h : ag_H} {res : (Int32) × ag_H} (hyp : fn_Tk_openWith_0 N C a x1 h = some res) (hF : fr_H b h0 h) : fr_H b h0 res.2 := by
  unfold fn_Tk_openWith_0 at hyp
  obtain ⟨h3, eh3, hyp⟩ := md_bd hyp
  have hF3 : fr_H b h0 h3 := fr_pf hF (ha) fr_vi eh3
  obtain ⟨h6, eh6, hyp⟩ := md_bd hyp
  have hF6 : fr_H b h0 h6 := fr_pf hF3 (ha) fr_vi eh6
  cases hyp
  exact hF6
theorem a_Tk_openWith {b N : Nat} {C : Nat × Nat} {h0 : ag_H} {a : Nat} {p1 : Int32} {h : ag_H} {res : (Int32) × ag_H} (hyp : fn_Tk_openWith N C a p1 h = some res) (hF : fr_H b h0 h) (ha : fr_ok b (some a)) : fr_H b h0 res.2 := a_Tk_openWith_0 ha hyp hF 
theorem a_GC_keep_0 {b N : Nat} {C : Nat × Nat} {h0 : ag_H} {a : Nat} (ha : fr_ok b (some a)) {x1 : Option Nat} {h : ag_H} {res : (Int32) × ag_H} (hyp : fn_GC_keep_0 N C a x1 h = some res) (hF : fr_H b h0 h) (hx1 : fr_ok b x1) : fr_H b h0 res.2 := by
  unfold fn_GC_keep_0 at hyp
  obtain ⟨g2, eg2, hyp⟩ := md_bd hyp
  obtain ⟨a4, ea4, hyp⟩ := md_bd hyp
  obtain ⟨r4, er4, hyp⟩ := md_bd hyp
  have f4 := a_AL_add er4 hF (fr_rc (fr_gr hF (ha) eg2) ea4) (hx1)
  obtain ⟨g7, eg7, hyp⟩ := md_bd hyp
  obtain ⟨a8, ea8, hyp⟩ := md_bd hyp
  obtain ⟨r8, er8, hyp⟩ := md_bd hyp
  have f8 := a_AL_size er8 f4 (fr_rc (fr_gr f4 (ha) eg7) ea8) 
  cases hyp
  exact f8
theorem a_GC_keep {b N : Nat} {C : Nat × Nat} {h0 : ag_H} {a : Nat} {p1 : Option Nat} {h : ag_H} {res : (Int32) × ag_H} (hyp : fn_GC_keep N C a p1 h = some res) (hF : fr_H b h0 h) (ha : fr_ok b (some a)) (hp1 : fr_ok b p1) : fr_H b h0 res.2 := a_GC_keep_0 ha hyp hF hp1
theorem a_GC_keepWithNewLink_0 {b N : Nat} {C : Nat × Nat} {h0 : ag_H} {a : Nat} (ha : fr_ok b (some a)) {x1 : Option Nat} {x2 : Int32} {h : ag_H} {res : (Int32) × ag_H} (hyp : fn_GC_keepWithNewLink_0 N C a x1 x2 h = some res) (hF : fr_H b h0 h) (hx1 : fr_ok b x1) : fr_H b h0 res.2 := by
  unfold fn_GC_keepWithNewLink_0 at hyp
  obtain ⟨g2, eg2, hyp⟩ := md_bd hyp
  obtain ⟨g4, eg4, hyp⟩ := md_bd hyp
  obtain ⟨a5, ea5, hyp⟩ := md_bd hyp
  obtain ⟨r5, er5, hyp⟩ := md_bd hyp
  have f5 := a_AL_add er5 hF (fr_rc (fr_gr hF (ha) eg2) ea5) (fr_gr hF (ha) eg4)
  obtain ⟨q8, hyp⟩ := md_ifs hyp
  have hF8 : fr_H b h0 (ag_nw r5.2 1 (.inr (5, [.null]))) := fr_nw f5 (fr_ob rfl)
  obtain ⟨r10, er10, hyp⟩ := md_bd hyp
  have f10 := a_Bk_init er10 hF8 (fr_new f5) 
  obtain ⟨h11, eh11, hyp⟩ := md_bd hyp
  have hF11 : fr_H b h0 h11 := fr_pf f10 (ha) (fr_vr (r := (some (r5.2.1))) (fr_new f5)) eh11
  obtain ⟨g13, eg13, hyp⟩ := md_bd hyp
  obtain ⟨a14, ea14, hyp⟩ := md_bd hyp
  obtain ⟨r14, er14, hyp⟩ := md_bd hyp
  have f14 := a_AL_size er14 hF11 (fr_rc (fr_gr hF11 (ha) eg13) ea14) 
  obtain ⟨a17, ea17, hyp⟩ := md_bd hyp
  obtain ⟨r17, er17, hyp⟩ := md_bd hyp
  have f17 := a_GC_newKey er17 f14 (fr_rc (ha) ea17) 
  obtain ⟨g20, eg20, hyp⟩ := md_bd hyp
  obtain ⟨q21, hyp⟩ := md_ifs hyp
  have hF21 : fr_H b h0 (ag_nw r17.2 5 (.inr (9, [.int 0, .int 0, .int 0, .int 0, .int 0]))) := fr_nw f17 (fr_ob rfl)
  obtain ⟨r28, er28, hyp⟩ := md_bd hyp
  have f28 := a_Lk_init er28 hF21 (fr_new f17) 
  obtain ⟨a29, ea29, hyp⟩ := md_bd hyp
  obtain ⟨r29, er29, hyp⟩ := md_bd hyp
  have f29 := a_AL_add er29 f28 (fr_rc (fr_gr f17 (hx1) eg20) ea29) (fr_new f17)
  obtain ⟨a33, ea33, hyp⟩ := md_bd hyp
  obtain ⟨r33, er33, hyp⟩ := md_bd hyp
  have f33 := a_Tk_openWith er33 f29 (fr_rc (hx1) ea33) 
  obtain ⟨a36, ea36, hyp⟩ := md_bd hyp
  obtain ⟨r36, er36, hyp⟩ := md_bd hyp
  have f36 := a_GC_keep er36 f33 (fr_rc (ha) ea36) (hx1)
  cases hyp
  exact f36
theorem a_GC_keepWithNewLink {b N : Nat} {C : Nat × Nat} {h0 : ag_H} {a : Nat} {p1 : Option Nat} {p2 : Int32} {h : ag_H} {res : (Int32) × ag_H} (hyp : fn_GC_keepWithNewLink N C a p1 p2 h = some res) (hF : fr_H b h0 h) (ha : fr_ok b (some a)) (hp1 : fr_ok b p1) : fr_H b h0 res.2 := a_GC_keepWithNewLink_0 ha hyp hF hp1
theorem a_GC_issue_0 {b N : Nat} {C : Nat × Nat} {h0 : ag_H} {a : Nat} (ha : fr_ok b (some a)) {x1 : Int32} {h : ag_H} {res : (Int32 ⊕ Nat) × ag_H} (hyp : fn_GC_issue_0 N C a x1 h = some res) (hF : fr_H b h0 h) : fr_H b h0 res.2 := by
  unfold fn_GC_issue_0 at hyp
  obtain ⟨r2, er2, hyp⟩ := md_bd hyp
  have f2 := a_GC_isRoot er2 hF 
  rcases fr_if hyp with ⟨q, hyp⟩ | ⟨q, hyp⟩
  · obtain ⟨q17, hyp⟩ := md_ifs hyp
    cases hyp
    exact fr_nw f2 (fr_ob rfl)
  · obtain ⟨g5, eg5, hyp⟩ := md_bd hyp
    obtain ⟨a6, ea6, hyp⟩ := md_bd hyp
    obtain ⟨r6, er6, hyp⟩ := md_bd hyp
    have f6 := a_AL_size er6 f2 (fr_rc (fr_gr f2 (ha) eg5) ea6) 
    rcases fr_if hyp with ⟨q, hyp⟩ | ⟨q, hyp⟩
    · obtain ⟨q10, hyp⟩ := md_ifs hyp
      have hF10 : fr_H b h0 (ag_nw r6.2 4 (.inr (8, [.null, .int 0, .int 0, .int 0]))) := fr_nw f6 (fr_ob rfl)
      obtain ⟨r12, er12, hyp⟩ := md_bd hyp
      have f12 := a_Tk_init er12 hF10 (fr_new f6) 
      obtain ⟨a14, ea14, hyp⟩ := md_bd hyp
      obtain ⟨r14, er14, hyp⟩ := md_bd hyp
      have f14 := a_GC_keepWithNewLink er14 f12 (fr_rc (ha) ea14) (fr_new f6)
      cases hyp
      exact f14
    · obtain ⟨q16, hyp⟩ := md_ifs hyp
      cases hyp
      exact fr_nw f6 (fr_ob rfl)
theorem a_GC_issue {b N : Nat} {C : Nat × Nat} {h0 : ag_H} {a : Nat} {p1 : Int32} {h : ag_H} {res : (Int32 ⊕ Nat) × ag_H} (hyp : fn_GC_issue N C a p1 h = some res) (hF : fr_H b h0 h) (ha : fr_ok b (some a)) : fr_H b h0 res.2 := a_GC_issue_0 ha hyp hF 
theorem a_GC_isToken_22 {b N : Nat} {C : Nat × Nat} {h0 : ag_H} {a : Nat} (ha : fr_ok b (some a)) {s0 : Int32} {h : ag_H} {res : (Int32) × ag_H} (hyp : fn_GC_isToken_22 N C a s0 h = some res) (hF : fr_H b h0 h) : fr_H b h0 res.2 := by
  unfold fn_GC_isToken_22 at hyp
  obtain ⟨q1, hyp⟩ := md_ifs hyp
  cases hyp
  exact hF
theorem a_GC_isToken_21 {b N : Nat} {C : Nat × Nat} {h0 : ag_H} {a : Nat} (ha : fr_ok b (some a)) {h : ag_H} {res : (Int32) × ag_H} (hyp : fn_GC_isToken_21 N C a h = some res) (hF : fr_H b h0 h) : fr_H b h0 res.2 := by
  unfold fn_GC_isToken_21 at hyp
  exact a_GC_isToken_22 ha hyp hF 
theorem a_GC_isToken_0 {b N : Nat} {C : Nat × Nat} {h0 : ag_H} {a : Nat} (ha : fr_ok b (some a)) {x1 : Int32} {h : ag_H} {res : (Int32) × ag_H} (hyp : fn_GC_isToken_0 N C a x1 h = some res) (hF : fr_H b h0 h) : fr_H b h0 res.2 := by
  unfold fn_GC_isToken_0 at hyp
  rcases fr_if hyp with ⟨q, hyp⟩ | ⟨q, hyp⟩
  · exact a_GC_isToken_21 ha hyp hF
  · obtain ⟨g5, eg5, hyp⟩ := md_bd hyp
    obtain ⟨a6, ea6, hyp⟩ := md_bd hyp
    obtain ⟨r6, er6, hyp⟩ := md_bd hyp
    have f6 := a_AL_size er6 hF (fr_rc (fr_gr hF (ha) eg5) ea6) 
    rcases fr_if hyp with ⟨q, hyp⟩ | ⟨q, hyp⟩
    · exact a_GC_isToken_21 ha hyp f6
    · exact a_GC_isToken_22 ha hyp f6
theorem a_GC_isToken {b N : Nat} {C : Nat × Nat} {h0 : ag_H} {a : Nat} {p1 : Int32} {h : ag_H} {res : (Int32) × ag_H} (hyp : fn_GC_isToken N C a p1 h = some res) (hF : fr_H b h0 h) (ha : fr_ok b (some a)) : fr_H b h0 res.2 := a_GC_isToken_0 ha hyp hF 
theorem a_Pr_checkIndex_9 {b N : Nat} {C : Nat × Nat} {h0 : ag_H} {x0 : Int32} {x1 : Int32} {x2 : Option Nat} {h : ag_H} {res : (Int32) × ag_H} (hyp : fn_Pr_checkIndex_9 N C x0 x1 x2 h = some res) (hF : fr_H b h0 h) (hx2 : fr_ok b x2) : fr_H b h0 res.2 := by
  unfold fn_Pr_checkIndex_9 at hyp
  cases hyp
theorem a_Pr_checkIndex_0 {b N : Nat} {C : Nat × Nat} {h0 : ag_H} {x0 : Int32} {x1 : Int32} {x2 : Option Nat} {h : ag_H} {res : (Int32) × ag_H} (hyp : fn_Pr_checkIndex_0 N C x0 x1 x2 h = some res) (hF : fr_H b h0 h) (hx2 : fr_ok b x2) : fr_H b h0 res.2 := by
  unfold fn_Pr_checkIndex_0 at hyp
  rcases fr_if hyp with ⟨q, hyp⟩ | ⟨q, hyp⟩
  · exact a_Pr_checkIndex_9 hyp hF (hx2)
  · rcases fr_if hyp with ⟨q, hyp⟩ | ⟨q, hyp⟩
    · cases hyp
      exact hF
    · exact a_Pr_checkIndex_9 hyp hF (hx2)
theorem a_Pr_checkIndex {b N : Nat} {C : Nat × Nat} {h0 : ag_H} {p0 : Int32} {p1 : Int32} {p2 : Option Nat} {h : ag_H} {res : (Int32) × ag_H} (hyp : fn_Pr_checkIndex N C p0 p1 p2 h = some res) (hF : fr_H b h0 h) (hp2 : fr_ok b p2) : fr_H b h0 res.2 := a_Pr_checkIndex_0 hyp hF hp2
theorem a_Ob_checkIndex_0 {b N : Nat} {C : Nat × Nat} {h0 : ag_H} {x0 : Int32} {x1 : Int32} {h : ag_H} {res : (Int32) × ag_H} (hyp : fn_Ob_checkIndex_0 N C x0 x1 h = some res) (hF : fr_H b h0 h) : fr_H b h0 res.2 := by
  unfold fn_Ob_checkIndex_0 at hyp
  obtain ⟨r4, er4, hyp⟩ := md_bd hyp
  have f4 := a_Pr_checkIndex er4 hF (fr_none)
  cases hyp
  exact f4
theorem a_Ob_checkIndex {b N : Nat} {C : Nat × Nat} {h0 : ag_H} {p0 : Int32} {p1 : Int32} {h : ag_H} {res : (Int32) × ag_H} (hyp : fn_Ob_checkIndex N C p0 p1 h = some res) (hF : fr_H b h0 h) : fr_H b h0 res.2 := a_Ob_checkIndex_0 hyp hF 
theorem a_AL_elementData_0 {b N : Nat} {C : Nat × Nat} {h0 : ag_H} {a : Nat} (ha : fr_ok b (some a)) {x1 : Int32} {h : ag_H} {res : (Option Nat) × ag_H} (hyp : fn_AL_elementData_0 N C a x1 h = some res) (hF : fr_H b h0 h) : fr_H b h0 res.2 ∧ fr_ok b res.1 := by
  unfold fn_AL_elementData_0 at hyp
  obtain ⟨g2, eg2, hyp⟩ := md_bd hyp
  obtain ⟨p4, ep4, hyp⟩ := md_bd hyp
  obtain ⟨q4, hyp⟩ := md_ifs hyp
  cases hyp
  exact ⟨hF, fr_ao hF (fr_gr hF (ha) eg2) ep4 _⟩
theorem a_AL_elementData {b N : Nat} {C : Nat × Nat} {h0 : ag_H} {a : Nat} {p1 : Int32} {h : ag_H} {res : (Option Nat) × ag_H} (hyp : fn_AL_elementData N C a p1 h = some res) (hF : fr_H b h0 h) (ha : fr_ok b (some a)) : fr_H b h0 res.2 ∧ fr_ok b res.1 := a_AL_elementData_0 ha hyp hF 
theorem a_AL_get_0 {b N : Nat} {C : Nat × Nat} {h0 : ag_H} {a : Nat} (ha : fr_ok b (some a)) {x1 : Int32} {h : ag_H} {res : (Option Nat) × ag_H} (hyp : fn_AL_get_0 N C a x1 h = some res) (hF : fr_H b h0 h) : fr_H b h0 res.2 ∧ fr_ok b res.1 := by
  unfold fn_AL_get_0 at hyp
  obtain ⟨g3, eg3, hyp⟩ := md_bd hyp
  obtain ⟨r4, er4, hyp⟩ := md_bd hyp
  have f4 := a_Ob_checkIndex er4 hF 
  obtain ⟨a8, ea8, hyp⟩ := md_bd hyp
  obtain ⟨r8, er8, hyp⟩ := md_bd hyp
  have f8 := a_AL_elementData er8 f4 (fr_rc (ha) ea8) 
  cases hyp
  exact ⟨f8.1, f8.2⟩
theorem a_AL_get {b N : Nat} {C : Nat × Nat} {h0 : ag_H} {a : Nat} {p1 : Int32} {h : ag_H} {res : (Option Nat) × ag_H} (hyp : fn_AL_get N C a p1 h = some res) (hF : fr_H b h0 h) (ha : fr_ok b (some a)) : fr_H b h0 res.2 ∧ fr_ok b res.1 := a_AL_get_0 ha hyp hF 
theorem a_Tk_copy_10 {b N : Nat} {C : Nat × Nat} {h0 : ag_H} {a : Nat} (ha : fr_ok b (some a)) : ∀ (n : Nat) (res : (Option Nat) × ag_H) (x1 : Option Nat) (x2 : Int32) (h : ag_H) , fn_Tk_copy_10 N C a n x1 x2 h = some res → fr_H b h0 h → fr_ok b x1 → fr_H b h0 res.2 ∧ fr_ok b res.1 := by
  intro n
  induction n with
  | zero =>
    intro res x1 x2 h hyp
    cases hyp
  | succ n ih =>
    intro res x1 x2 h hyp hF hx1
    rw [fe_Tk_copy_10] at hyp
    obtain ⟨g3, eg3, hyp⟩ := md_bd hyp
    obtain ⟨a4, ea4, hyp⟩ := md_bd hyp
    obtain ⟨r4, er4, hyp⟩ := md_bd hyp
    have f4 := a_AL_size er4 hF (fr_rc (fr_gr hF (ha) eg3) ea4) 
    rcases fr_if hyp with ⟨q, hyp⟩ | ⟨q, hyp⟩
    · obtain ⟨g8, eg8, hyp⟩ := md_bd hyp
      obtain ⟨h9, eh9, hyp⟩ := md_bd hyp
      have hF9 : fr_H b h0 h9 := fr_pf f4 (hx1) fr_vi eh9
      obtain ⟨g12, eg12, hyp⟩ := md_bd hyp
      obtain ⟨h13, eh13, hyp⟩ := md_bd hyp
      have hF13 : fr_H b h0 h13 := fr_pf hF9 (hx1) fr_vi eh13
      obtain ⟨g16, eg16, hyp⟩ := md_bd hyp
      obtain ⟨h17, eh17, hyp⟩ := md_bd hyp
      have hF17 : fr_H b h0 h17 := fr_pf hF13 (hx1) fr_vi eh17
      cases hyp
      exact ⟨hF17, hx1⟩
    · obtain ⟨g21, eg21, hyp⟩ := md_bd hyp
      obtain ⟨g23, eg23, hyp⟩ := md_bd hyp
      obtain ⟨a25, ea25, hyp⟩ := md_bd hyp
      obtain ⟨r25, er25, hyp⟩ := md_bd hyp
      have f25 := a_AL_get er25 f4 (fr_rc (fr_gr f4 (ha) eg23) ea25) 
      obtain ⟨q26, hyp⟩ := md_ifs hyp
      obtain ⟨a27, ea27, hyp⟩ := md_bd hyp
      obtain ⟨r27, er27, hyp⟩ := md_bd hyp
      have f27 := a_AL_add er27 f25.1 (fr_rc (fr_gr f4 (hx1) eg21) ea27) (f25.2)
      exact ih _ _ _ _ hyp f27 (hx1)
theorem a_Tk_copy_0 {b N : Nat} {C : Nat × Nat} {h0 : ag_H} {a : Nat} (ha : fr_ok b (some a)) {h : ag_H} {res : (Option Nat) × ag_H} (hyp : fn_Tk_copy_0 N C a h = some res) (hF : fr_H b h0 h) : fr_H b h0 res.2 ∧ fr_ok b res.1 := by
  unfold fn_Tk_copy_0 at hyp
  obtain ⟨q1, hyp⟩ := md_ifs hyp
  have hF1 : fr_H b h0 (ag_nw h 4 (.inr (8, [.null, .int 0, .int 0, .int 0]))) := fr_nw hF (fr_ob rfl)
  obtain ⟨r3, er3, hyp⟩ := md_bd hyp
  have f3 := a_Tk_init er3 hF1 (fr_new hF) 
  exact a_Tk_copy_10 ha N _ _ _ _ hyp f3 (fr_new hF)
theorem a_Tk_copy {b N : Nat} {C : Nat × Nat} {h0 : ag_H} {a : Nat} {h : ag_H} {res : (Option Nat) × ag_H} (hyp : fn_Tk_copy N C a h = some res) (hF : fr_H b h0 h) (ha : fr_ok b (some a)) : fr_H b h0 res.2 ∧ fr_ok b res.1 := a_Tk_copy_0 ha hyp hF 
theorem a_GC_append_64 {b N : Nat} {C : Nat × Nat} {h0 : ag_H} {a : Nat} (ha : fr_ok b (some a)) {h : ag_H} {res : (Int32 ⊕ Nat) × ag_H} (hyp : fn_GC_append_64 N C a h = some res) (hF : fr_H b h0 h) : fr_H b h0 res.2 := by
  unfold fn_GC_append_64 at hyp
  obtain ⟨q1, hyp⟩ := md_ifs hyp
  cases hyp
  exact fr_nw hF (fr_ob rfl)
theorem a_GC_append_0 {b N : Nat} {C : Nat × Nat} {h0 : ag_H} {a : Nat} (ha : fr_ok b (some a)) {x1 : Int32} {h : ag_H} {res : (Int32 ⊕ Nat) × ag_H} (hyp : fn_GC_append_0 N C a x1 h = some res) (hF : fr_H b h0 h) : fr_H b h0 res.2 := by
  unfold fn_GC_append_0 at hyp
  obtain ⟨a3, ea3, hyp⟩ := md_bd hyp
  obtain ⟨r3, er3, hyp⟩ := md_bd hyp
  have f3 := a_GC_isToken er3 hF (fr_rc (ha) ea3) 
  rcases fr_if hyp with ⟨q, hyp⟩ | ⟨q, hyp⟩
  · obtain ⟨q31, hyp⟩ := md_ifs hyp
    cases hyp
    exact fr_nw f3 (fr_ob rfl)
  · obtain ⟨g6, eg6, hyp⟩ := md_bd hyp
    obtain ⟨a8, ea8, hyp⟩ := md_bd hyp
    obtain ⟨r8, er8, hyp⟩ := md_bd hyp
    have f8 := a_AL_get er8 f3 (fr_rc (fr_gr f3 (ha) eg6) ea8) 
    obtain ⟨q9, hyp⟩ := md_ifs hyp
    obtain ⟨g12, eg12, hyp⟩ := md_bd hyp
    rcases fr_if hyp with ⟨q, hyp⟩ | ⟨q, hyp⟩
    · obtain ⟨g15, eg15, hyp⟩ := md_bd hyp
      obtain ⟨a16, ea16, hyp⟩ := md_bd hyp
      obtain ⟨r16, er16, hyp⟩ := md_bd hyp
      have f16 := a_AL_size er16 f8.1 (fr_rc (fr_gr f8.1 (f8.2) eg15) ea16) 
      rcases fr_if hyp with ⟨q, hyp⟩ | ⟨q, hyp⟩
      · exact a_GC_append_64 ha hyp f16
      · obtain ⟨g20, eg20, hyp⟩ := md_bd hyp
        obtain ⟨a21, ea21, hyp⟩ := md_bd hyp
        obtain ⟨r21, er21, hyp⟩ := md_bd hyp
        have f21 := a_AL_size er21 f16 (fr_rc (fr_gr f16 (ha) eg20) ea21) 
        rcases fr_if hyp with ⟨q, hyp⟩ | ⟨q, hyp⟩
        · obtain ⟨a26, ea26, hyp⟩ := md_bd hyp
          obtain ⟨r26, er26, hyp⟩ := md_bd hyp
          have f26 := a_Tk_copy er26 f21 (fr_rc (f8.2) ea26) 
          obtain ⟨g28, eg28, hyp⟩ := md_bd hyp
          obtain ⟨a29, ea29, hyp⟩ := md_bd hyp
          obtain ⟨r29, er29, hyp⟩ := md_bd hyp
          have f29 := a_GC_keepWithNewLink er29 f26.1 (fr_rc (ha) ea29) (f26.2)
          cases hyp
          exact f29
        · exact a_GC_append_64 ha hyp f21
    · exact a_GC_append_64 ha hyp f8.1
theorem a_GC_append {b N : Nat} {C : Nat × Nat} {h0 : ag_H} {a : Nat} {p1 : Int32} {h : ag_H} {res : (Int32 ⊕ Nat) × ag_H} (hyp : fn_GC_append N C a p1 h = some res) (hF : fr_H b h0 h) (ha : fr_ok b (some a)) : fr_H b h0 res.2 := a_GC_append_0 ha hyp hF 
theorem a_GC_seal_51 {b N : Nat} {C : Nat × Nat} {h0 : ag_H} {a : Nat} (ha : fr_ok b (some a)) {h : ag_H} {res : (Int32 ⊕ Nat) × ag_H} (hyp : fn_GC_seal_51 N C a h = some res) (hF : fr_H b h0 h) : fr_H b h0 res.2 := by
  unfold fn_GC_seal_51 at hyp
  obtain ⟨q1, hyp⟩ := md_ifs hyp
  cases hyp
  exact fr_nw hF (fr_ob rfl)
theorem a_GC_seal_0 {b N : Nat} {C : Nat × Nat} {h0 : ag_H} {a : Nat} (ha : fr_ok b (some a)) {x1 : Int32} {h : ag_H} {res : (Int32 ⊕ Nat) × ag_H} (hyp : fn_GC_seal_0 N C a x1 h = some res) (hF : fr_H b h0 h) : fr_H b h0 res.2 := by
  unfold fn_GC_seal_0 at hyp
  obtain ⟨a3, ea3, hyp⟩ := md_bd hyp
  obtain ⟨r3, er3, hyp⟩ := md_bd hyp
  have f3 := a_GC_isToken er3 hF (fr_rc (ha) ea3) 
  rcases fr_if hyp with ⟨q, hyp⟩ | ⟨q, hyp⟩
  · obtain ⟨q34, hyp⟩ := md_ifs hyp
    cases hyp
    exact fr_nw f3 (fr_ob rfl)
  · obtain ⟨g6, eg6, hyp⟩ := md_bd hyp
    obtain ⟨a8, ea8, hyp⟩ := md_bd hyp
    obtain ⟨r8, er8, hyp⟩ := md_bd hyp
    have f8 := a_AL_get er8 f3 (fr_rc (fr_gr f3 (ha) eg6) ea8) 
    obtain ⟨q9, hyp⟩ := md_ifs hyp
    obtain ⟨g12, eg12, hyp⟩ := md_bd hyp
    rcases fr_if hyp with ⟨q, hyp⟩ | ⟨q, hyp⟩
    · obtain ⟨g15, eg15, hyp⟩ := md_bd hyp
      obtain ⟨a16, ea16, hyp⟩ := md_bd hyp
      obtain ⟨r16, er16, hyp⟩ := md_bd hyp
      have f16 := a_AL_size er16 f8.1 (fr_rc (fr_gr f8.1 (ha) eg15) ea16) 
      rcases fr_if hyp with ⟨q, hyp⟩ | ⟨q, hyp⟩
      · obtain ⟨a20, ea20, hyp⟩ := md_bd hyp
        obtain ⟨r20, er20, hyp⟩ := md_bd hyp
        have f20 := a_Tk_copy er20 f16 (fr_rc (f8.2) ea20) 
        obtain ⟨h24, eh24, hyp⟩ := md_bd hyp
        have hF24 : fr_H b h0 h24 := fr_pf f20.1 (f20.2) fr_vi eh24
        obtain ⟨g27, eg27, hyp⟩ := md_bd hyp
        obtain ⟨a28, ea28, hyp⟩ := md_bd hyp
        obtain ⟨r28, er28, hyp⟩ := md_bd hyp
        have f28 := a_AL_size er28 hF24 (fr_rc (fr_gr hF24 (f20.2) eg27) ea28) 
        obtain ⟨h29, eh29, hyp⟩ := md_bd hyp
        have hF29 : fr_H b h0 h29 := fr_pf f28 (f20.2) fr_vi eh29
        obtain ⟨a32, ea32, hyp⟩ := md_bd hyp
        obtain ⟨r32, er32, hyp⟩ := md_bd hyp
        have f32 := a_GC_keep er32 hF29 (fr_rc (ha) ea32) (f20.2)
        cases hyp
        exact f32
      · exact a_GC_seal_51 ha hyp f16
    · exact a_GC_seal_51 ha hyp f8.1
theorem a_GC_seal {b N : Nat} {C : Nat × Nat} {h0 : ag_H} {a : Nat} {p1 : Int32} {h : ag_H} {res : (Int32 ⊕ Nat) × ag_H} (hyp : fn_GC_seal N C a p1 h = some res) (hF : fr_H b h0 h) (ha : fr_ok b (some a)) : fr_H b h0 res.2 := a_GC_seal_0 ha hyp hF 
theorem a_GC_canTamper_70 {b N : Nat} {C : Nat × Nat} {h0 : ag_H} {s0 : Int32} {h : ag_H} {res : (Int32) × ag_H} (hyp : fn_GC_canTamper_70 N C s0 h = some res) (hF : fr_H b h0 h) : fr_H b h0 res.2 := by
  unfold fn_GC_canTamper_70 at hyp
  obtain ⟨q1, hyp⟩ := md_ifs hyp
  cases hyp
  exact hF
theorem a_GC_canTamper_69 {b N : Nat} {C : Nat × Nat} {h0 : ag_H} {h : ag_H} {res : (Int32) × ag_H} (hyp : fn_GC_canTamper_69 N C h = some res) (hF : fr_H b h0 h) : fr_H b h0 res.2 := by
  unfold fn_GC_canTamper_69 at hyp
  exact a_GC_canTamper_70 hyp hF 
theorem a_GC_canTamper_65 {b N : Nat} {C : Nat × Nat} {h0 : ag_H} {h : ag_H} {res : (Int32) × ag_H} (hyp : fn_GC_canTamper_65 N C h = some res) (hF : fr_H b h0 h) : fr_H b h0 res.2 := by
  unfold fn_GC_canTamper_65 at hyp
  exact a_GC_canTamper_70 hyp hF 
theorem a_GC_canTamper_30 {b N : Nat} {C : Nat × Nat} {h0 : ag_H} {x0 : Int32} {x1 : Int32} {x2 : Int32} {x3 : Int32} {s0 : Int32} {h : ag_H} {res : (Int32) × ag_H} (hyp : fn_GC_canTamper_30 N C x0 x1 x2 x3 s0 h = some res) (hF : fr_H b h0 h) : fr_H b h0 res.2 := by
  unfold fn_GC_canTamper_30 at hyp
  rcases fr_if hyp with ⟨q, hyp⟩ | ⟨q, hyp⟩
  · exact a_GC_canTamper_69 hyp hF
  · rcases fr_if hyp with ⟨q, hyp⟩ | ⟨q, hyp⟩
    · exact a_GC_canTamper_69 hyp hF
    · rcases fr_if hyp with ⟨q, hyp⟩ | ⟨q, hyp⟩
      · exact a_GC_canTamper_69 hyp hF
      · rcases fr_if hyp with ⟨q, hyp⟩ | ⟨q, hyp⟩
        · exact a_GC_canTamper_69 hyp hF
        · rcases fr_if hyp with ⟨q, hyp⟩ | ⟨q, hyp⟩
          · exact a_GC_canTamper_65 hyp hF
          · rcases fr_if hyp with ⟨q, hyp⟩ | ⟨q, hyp⟩
            · exact a_GC_canTamper_69 hyp hF
            · rcases fr_if hyp with ⟨q, hyp⟩ | ⟨q, hyp⟩
              · exact a_GC_canTamper_69 hyp hF
              · exact a_GC_canTamper_65 hyp hF
theorem a_GC_canTamper_25 {b N : Nat} {C : Nat × Nat} {h0 : ag_H} {x0 : Int32} {x1 : Int32} {x2 : Int32} {x3 : Int32} {h : ag_H} {res : (Int32) × ag_H} (hyp : fn_GC_canTamper_25 N C x0 x1 x2 x3 h = some res) (hF : fr_H b h0 h) : fr_H b h0 res.2 := by
  unfold fn_GC_canTamper_25 at hyp
  exact a_GC_canTamper_30 hyp hF 
theorem a_GC_canTamper_14 {b N : Nat} {C : Nat × Nat} {h0 : ag_H} {s0 : Int32} {h : ag_H} {res : (Int32) × ag_H} (hyp : fn_GC_canTamper_14 N C s0 h = some res) (hF : fr_H b h0 h) : fr_H b h0 res.2 := by
  unfold fn_GC_canTamper_14 at hyp
  obtain ⟨q1, hyp⟩ := md_ifs hyp
  cases hyp
  exact hF
theorem a_GC_canTamper_0 {b N : Nat} {C : Nat × Nat} {h0 : ag_H} {x0 : Int32} {x1 : Int32} {x2 : Int32} {x3 : Int32} {h : ag_H} {res : (Int32) × ag_H} (hyp : fn_GC_canTamper_0 N C x0 x1 x2 x3 h = some res) (hF : fr_H b h0 h) : fr_H b h0 res.2 := by
  unfold fn_GC_canTamper_0 at hyp
  rcases fr_if hyp with ⟨q, hyp⟩ | ⟨q, hyp⟩
  · rcases fr_if hyp with ⟨q, hyp⟩ | ⟨q, hyp⟩
    · exact a_GC_canTamper_14 hyp hF
    · exact a_GC_canTamper_14 hyp hF
  · rcases fr_if hyp with ⟨q, hyp⟩ | ⟨q, hyp⟩
    · exact a_GC_canTamper_25 hyp hF
    · rcases fr_if hyp with ⟨q, hyp⟩ | ⟨q, hyp⟩
      · exact a_GC_canTamper_25 hyp hF
      · exact a_GC_canTamper_30 hyp hF
theorem a_GC_canTamper {b N : Nat} {C : Nat × Nat} {h0 : ag_H} {p0 : Int32} {p1 : Int32} {p2 : Int32} {p3 : Int32} {h : ag_H} {res : (Int32) × ag_H} (hyp : fn_GC_canTamper N C p0 p1 p2 p3 h = some res) (hF : fr_H b h0 h) : fr_H b h0 res.2 := a_GC_canTamper_0 hyp hF 
theorem a_AL_fastRemove_34 {b N : Nat} {C : Nat × Nat} {h0 : ag_H} {a : Nat} (ha : fr_ok b (some a)) {x1 : Option Nat} {x3 : Int32} {h : ag_H} {res : (Int32) × ag_H} (hyp : fn_AL_fastRemove_34 N C a x1 x3 h = some res) (hF : fr_H b h0 h) (hx1 : fr_ok b x1) : fr_H b h0 res.2 := by
  unfold fn_AL_fastRemove_34 at hyp
  obtain ⟨h5, eh5, hyp⟩ := md_bd hyp
  have hF5 : fr_H b h0 h5 := fr_pf hF (ha) fr_vi eh5
  obtain ⟨h7, eh7, hyp⟩ := md_bd hyp
  have hF7 : fr_H b h0 h7 := fr_as hF5 (hx1) (fr_none) eh7
  cases hyp
  exact hF7
theorem a_AL_fastRemove_0 {b N : Nat} {C : Nat × Nat} {h0 : ag_H} {a : Nat} (ha : fr_ok b (some a)) {x1 : Option Nat} {x2 : Int32} {h : ag_H} {res : (Int32) × ag_H} (hyp : fn_AL_fastRemove_0 N C a x1 x2 h = some res) (hF : fr_H b h0 h) (hx1 : fr_ok b x1) : fr_H b h0 res.2 := by
  unfold fn_AL_fastRemove_0 at hyp
  obtain ⟨g3, eg3, hyp⟩ := md_bd hyp
  obtain ⟨h6, eh6, hyp⟩ := md_bd hyp
  have hF6 : fr_H b h0 h6 := fr_pf hF (ha) fr_vi eh6
  obtain ⟨g8, eg8, hyp⟩ := md_bd hyp
  rcases fr_if hyp with ⟨q, hyp⟩ | ⟨q, hyp⟩
  · exact a_AL_fastRemove_34 ha hyp hF6 (hx1)
  · cases hyp
theorem a_AL_fastRemove {b N : Nat} {C : Nat × Nat} {h0 : ag_H} {a : Nat} {p1 : Option Nat} {p2 : Int32} {h : ag_H} {res : (Int32) × ag_H} (hyp : fn_AL_fastRemove N C a p1 p2 h = some res) (hF : fr_H b h0 h) (ha : fr_ok b (some a)) (hp1 : fr_ok b p1) : fr_H b h0 res.2 := a_AL_fastRemove_0 ha hyp hF hp1
theorem a_AL_remove_0 {b N : Nat} {C : Nat × Nat} {h0 : ag_H} {a : Nat} (ha : fr_ok b (some a)) {x1 : Int32} {h : ag_H} {res : (Option Nat) × ag_H} (hyp : fn_AL_remove_0 N C a x1 h = some res) (hF : fr_H b h0 h) : fr_H b h0 res.2 ∧ fr_ok b res.1 := by
  unfold fn_AL_remove_0 at hyp
  obtain ⟨g3, eg3, hyp⟩ := md_bd hyp
  obtain ⟨r4, er4, hyp⟩ := md_bd hyp
  have f4 := a_Ob_checkIndex er4 hF 
  obtain ⟨g7, eg7, hyp⟩ := md_bd hyp
  obtain ⟨p11, ep11, hyp⟩ := md_bd hyp
  obtain ⟨q11, hyp⟩ := md_ifs hyp
  obtain ⟨a16, ea16, hyp⟩ := md_bd hyp
  obtain ⟨r16, er16, hyp⟩ := md_bd hyp
  have f16 := a_AL_fastRemove er16 f4 (fr_rc (ha) ea16) (fr_gr f4 (ha) eg7)
  cases hyp
  exact ⟨f16, fr_ao f4 (fr_gr f4 (ha) eg7) ep11 _⟩
theorem a_AL_remove {b N : Nat} {C : Nat × Nat} {h0 : ag_H} {a : Nat} {p1 : Int32} {h : ag_H} {res : (Option Nat) × ag_H} (hyp : fn_AL_remove N C a p1 h = some res) (hF : fr_H b h0 h) (ha : fr_ok b (some a)) : fr_H b h0 res.2 ∧ fr_ok b res.1 := a_AL_remove_0 ha hyp hF 
theorem a_Tk_cutTo_12 {b N : Nat} {C : Nat × Nat} {h0 : ag_H} {a : Nat} (ha : fr_ok b (some a)) : ∀ (n : Nat) (res : (Int32) × ag_H) (x1 : Int32) (x2 : Int32) (h : ag_H) , fn_Tk_cutTo_12 N C a n x1 x2 h = some res → fr_H b h0 h → fr_H b h0 res.2 := by
  intro n
  induction n with
  | zero =>
    intro res x1 x2 h hyp
    cases hyp
  | succ n ih =>
    intro res x1 x2 h hyp hF 
    rw [fe_Tk_cutTo_12] at hyp
    rcases fr_if hyp with ⟨q, hyp⟩ | ⟨q, hyp⟩
    · cases hyp
      exact hF
    · obtain ⟨g6, eg6, hyp⟩ := md_bd hyp
      obtain ⟨a8, ea8, hyp⟩ := md_bd hyp
      obtain ⟨r8, er8, hyp⟩ := md_bd hyp
      have f8 := a_AL_remove er8 hF (fr_rc (fr_gr hF (ha) eg6) ea8) 
      exact ih _ _ _ _ hyp f8.1 
theorem a_Tk_cutTo_0 {b N : Nat} {C : Nat × Nat} {h0 : ag_H} {a : Nat} (ha : fr_ok b (some a)) {x1 : Int32} {h : ag_H} {res : (Int32) × ag_H} (hyp : fn_Tk_cutTo_0 N C a x1 h = some res) (hF : fr_H b h0 h) : fr_H b h0 res.2 := by
  unfold fn_Tk_cutTo_0 at hyp
  obtain ⟨g2, eg2, hyp⟩ := md_bd hyp
  obtain ⟨a3, ea3, hyp⟩ := md_bd hyp
  obtain ⟨r3, er3, hyp⟩ := md_bd hyp
  have f3 := a_AL_size er3 hF (fr_rc (fr_gr hF (ha) eg2) ea3) 
  exact a_Tk_cutTo_12 ha N _ _ _ _ hyp f3 
theorem a_Tk_cutTo {b N : Nat} {C : Nat × Nat} {h0 : ag_H} {a : Nat} {p1 : Int32} {h : ag_H} {res : (Int32) × ag_H} (hyp : fn_Tk_cutTo N C a p1 h = some res) (hF : fr_H b h0 h) (ha : fr_ok b (some a)) : fr_H b h0 res.2 := a_Tk_cutTo_0 ha hyp hF 
