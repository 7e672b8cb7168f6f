/-! frame: AL_set, Tk_changeLink, Tk_swapBlocks, Tk_swapLinks, Tk_signAnew, GC_tamper, Fa_begin, Jg_begin, Lk_isSignedBy, Tk_isRightFor, Fa_order, Fa_sort, Jg_end -/
theorem a_AL_set_0 {b N : Nat} {C : Nat × Nat} {h0 : ag_H} {a : Nat} (ha : fr_ok b (some a)) {x1 : Int32} {x2 : Option Nat} {h : ag_H} {res : (Option Nat) × ag_H} (hyp : fn_AL_set_0 N C a x1 x2 h = some res) (hF : fr_H b h0 h) (hx2 : fr_ok b x2) : fr_H b h0 res.2 ∧ fr_ok b res.1 := by
  unfold fn_AL_set_0 at hyp
  obtain ⟨g3, eg3, hyp⟩ := md_bd hyp
  obtain ⟨r4, er4, hyp⟩ := md_bd hyp
  have f4 := a_Ob_checkIndex er4 hF 
  obtain ⟨a8, ea8, hyp⟩ := md_bd hyp
  obtain ⟨r8, er8, hyp⟩ := md_bd hyp
  have f8 := a_AL_elementData er8 f4 (fr_rc (ha) ea8) 
  obtain ⟨g11, eg11, hyp⟩ := md_bd hyp
  obtain ⟨h14, eh14, hyp⟩ := md_bd hyp
  have hF14 : fr_H b h0 h14 := fr_as f8.1 (fr_gr f8.1 (ha) eg11) (hx2) eh14
  cases hyp
  exact ⟨hF14, f8.2⟩
theorem a_AL_set {b N : Nat} {C : Nat × Nat} {h0 : ag_H} {a : Nat} {p1 : Int32} {p2 : Option Nat} {h : ag_H} {res : (Option Nat) × ag_H} (hyp : fn_AL_set N C a p1 p2 h = some res) (hF : fr_H b h0 h) (ha : fr_ok b (some a)) (hp2 : fr_ok b p2) : fr_H b h0 res.2 ∧ fr_ok b res.1 := a_AL_set_0 ha hyp hF hp2
theorem a_Tk_changeLink_0 {b N : Nat} {C : Nat × Nat} {h0 : ag_H} {a : Nat} (ha : fr_ok b (some a)) {x1 : Int32} {x2 : Int32} {x3 : Int32} {h : ag_H} {res : (Int32) × ag_H} (hyp : fn_Tk_changeLink_0 N C a x1 x2 x3 h = some res) (hF : fr_H b h0 h) : fr_H b h0 res.2 := by
  unfold fn_Tk_changeLink_0 at hyp
  obtain ⟨g2, eg2, hyp⟩ := md_bd hyp
  obtain ⟨a4, ea4, hyp⟩ := md_bd hyp
  obtain ⟨r4, er4, hyp⟩ := md_bd hyp
  have f4 := a_AL_get er4 hF (fr_rc (fr_gr hF (ha) eg2) ea4) 
  obtain ⟨q5, hyp⟩ := md_ifs hyp
  obtain ⟨g8, eg8, hyp⟩ := md_bd hyp
  obtain ⟨q10, hyp⟩ := md_ifs hyp
  have hF10 : fr_H b h0 (ag_nw r4.2 5 (.inr (9, [.int 0, .int 0, .int 0, .int 0, .int 0]))) := fr_nw f4.1 (fr_ob rfl)
  obtain ⟨g15, eg15, hyp⟩ := md_bd hyp
  obtain ⟨g17, eg17, hyp⟩ := md_bd hyp
  obtain ⟨g19, eg19, hyp⟩ := md_bd hyp
  obtain ⟨r20, er20, hyp⟩ := md_bd hyp
  have f20 := a_Lk_init er20 hF10 (fr_new f4.1) 
  obtain ⟨a21, ea21, hyp⟩ := md_bd hyp
  obtain ⟨r21, er21, hyp⟩ := md_bd hyp
  have f21 := a_AL_set er21 f20 (fr_rc (fr_gr f4.1 (ha) eg8) ea21) (fr_new f4.1)
  cases hyp
  exact f21.1
theorem a_Tk_changeLink {b N : Nat} {C : Nat × Nat} {h0 : ag_H} {a : Nat} {p1 : Int32} {p2 : Int32} {p3 : Int32} {h : ag_H} {res : (Int32) × ag_H} (hyp : fn_Tk_changeLink N C a p1 p2 p3 h = some res) (hF : fr_H b h0 h) (ha : fr_ok b (some a)) : fr_H b h0 res.2 := a_Tk_changeLink_0 ha hyp hF 
theorem a_Tk_swapBlocks_0 {b N : Nat} {C : Nat × Nat} {h0 : ag_H} {a : Nat} (ha : fr_ok b (some a)) {x1 : Int32} {x2 : Int32} {h : ag_H} {res : (Int32) × ag_H} (hyp : fn_Tk_swapBlocks_0 N C a x1 x2 h = some res) (hF : fr_H b h0 h) : fr_H b h0 res.2 := by
  unfold fn_Tk_swapBlocks_0 at hyp
  obtain ⟨g2, eg2, hyp⟩ := md_bd hyp
  obtain ⟨a4, ea4, hyp⟩ := md_bd hyp
  obtain ⟨r4, er4, hyp⟩ := md_bd hyp
  have f4 := a_AL_get er4 hF (fr_rc (fr_gr hF (ha) eg2) ea4) 
  obtain ⟨q5, hyp⟩ := md_ifs hyp
  obtain ⟨g6, eg6, hyp⟩ := md_bd hyp
  obtain ⟨g11, eg11, hyp⟩ := md_bd hyp
  obtain ⟨a13, ea13, hyp⟩ := md_bd hyp
  obtain ⟨r13, er13, hyp⟩ := md_bd hyp
  have f13 := a_AL_get er13 f4.1 (fr_rc (fr_gr f4.1 (ha) eg11) ea13) 
  obtain ⟨q14, hyp⟩ := md_ifs hyp
  obtain ⟨g15, eg15, hyp⟩ := md_bd hyp
  obtain ⟨g17, eg17, hyp⟩ := md_bd hyp
  obtain ⟨a19, ea19, hyp⟩ := md_bd hyp
  obtain ⟨r19, er19, hyp⟩ := md_bd hyp
  have f19 := a_AL_get er19 f13.1 (fr_rc (fr_gr f13.1 (ha) eg17) ea19) 
  obtain ⟨q20, hyp⟩ := md_ifs hyp
  obtain ⟨g21, eg21, hyp⟩ := md_bd hyp
  obtain ⟨a22, ea22, hyp⟩ := md_bd hyp
  obtain ⟨r22, er22, hyp⟩ := md_bd hyp
  have f22 := a_Tk_changeLink er22 f19.1 (fr_rc (ha) ea22) 
  obtain ⟨g27, eg27, hyp⟩ := md_bd hyp
  obtain ⟨a29, ea29, hyp⟩ := md_bd hyp
  obtain ⟨r29, er29, hyp⟩ := md_bd hyp
  have f29 := a_AL_get er29 f22 (fr_rc (fr_gr f22 (ha) eg27) ea29) 
  obtain ⟨q30, hyp⟩ := md_ifs hyp
  obtain ⟨g31, eg31, hyp⟩ := md_bd hyp
  obtain ⟨a32, ea32, hyp⟩ := md_bd hyp
  obtain ⟨r32, er32, hyp⟩ := md_bd hyp
  have f32 := a_Tk_changeLink er32 f29.1 (fr_rc (ha) ea32) 
  cases hyp
  exact f32
theorem a_Tk_swapBlocks {b N : Nat} {C : Nat × Nat} {h0 : ag_H} {a : Nat} {p1 : Int32} {p2 : Int32} {h : ag_H} {res : (Int32) × ag_H} (hyp : fn_Tk_swapBlocks N C a p1 p2 h = some res) (hF : fr_H b h0 h) (ha : fr_ok b (some a)) : fr_H b h0 res.2 := a_Tk_swapBlocks_0 ha hyp hF 
theorem a_Tk_swapLinks_0 {b N : Nat} {C : Nat × Nat} {h0 : ag_H} {a : Nat} (ha : fr_ok b (some a)) {x1 : Int32} {x2 : Int32} {h : ag_H} {res : (Int32) × ag_H} (hyp : fn_Tk_swapLinks_0 N C a x1 x2 h = some res) (hF : fr_H b h0 h) : fr_H b h0 res.2 := by
  unfold fn_Tk_swapLinks_0 at hyp
  obtain ⟨g2, eg2, hyp⟩ := md_bd hyp
  obtain ⟨a4, ea4, hyp⟩ := md_bd hyp
  obtain ⟨r4, er4, hyp⟩ := md_bd hyp
  have f4 := a_AL_get er4 hF (fr_rc (fr_gr hF (ha) eg2) ea4) 
  obtain ⟨q5, hyp⟩ := md_ifs hyp
  obtain ⟨g8, eg8, hyp⟩ := md_bd hyp
  obtain ⟨g11, eg11, hyp⟩ := md_bd hyp
  obtain ⟨a13, ea13, hyp⟩ := md_bd hyp
  obtain ⟨r13, er13, hyp⟩ := md_bd hyp
  have f13 := a_AL_get er13 f4.1 (fr_rc (fr_gr f4.1 (ha) eg11) ea13) 
  obtain ⟨q14, hyp⟩ := md_ifs hyp
  obtain ⟨a15, ea15, hyp⟩ := md_bd hyp
  obtain ⟨r15, er15, hyp⟩ := md_bd hyp
  have f15 := a_AL_set er15 f13.1 (fr_rc (fr_gr f4.1 (ha) eg8) ea15) (f13.2)
  obtain ⟨g18, eg18, hyp⟩ := md_bd hyp
  obtain ⟨a21, ea21, hyp⟩ := md_bd hyp
  obtain ⟨r21, er21, hyp⟩ := md_bd hyp
  have f21 := a_AL_set er21 f15.1 (fr_rc (fr_gr f15.1 (ha) eg18) ea21) (f4.2)
  cases hyp
  exact f21.1
theorem a_Tk_swapLinks {b N : Nat} {C : Nat × Nat} {h0 : ag_H} {a : Nat} {p1 : Int32} {p2 : Int32} {h : ag_H} {res : (Int32) × ag_H} (hyp : fn_Tk_swapLinks N C a p1 p2 h = some res) (hF : fr_H b h0 h) (ha : fr_ok b (some a)) : fr_H b h0 res.2 := a_Tk_swapLinks_0 ha hyp hF 
theorem a_Tk_signAnew_0 {b N : Nat} {C : Nat × Nat} {h0 : ag_H} {a : Nat} (ha : fr_ok b (some a)) {x1 : Int32} {h : ag_H} {res : (Int32) × ag_H} (hyp : fn_Tk_signAnew_0 N C a x1 h = some res) (hF : fr_H b h0 h) : fr_H b h0 res.2 := by
  unfold fn_Tk_signAnew_0 at hyp
  obtain ⟨g2, eg2, hyp⟩ := md_bd hyp
  obtain ⟨a4, ea4, hyp⟩ := md_bd hyp
  obtain ⟨r4, er4, hyp⟩ := md_bd hyp
  have f4 := a_AL_get er4 hF (fr_rc (fr_gr hF (ha) eg2) ea4) 
  obtain ⟨q5, hyp⟩ := md_ifs hyp
  obtain ⟨g8, eg8, hyp⟩ := md_bd hyp
  obtain ⟨q10, hyp⟩ := md_ifs hyp
  have hF10 : fr_H b h0 (ag_nw r4.2 5 (.inr (9, [.int 0, .int 0, .int 0, .int 0, .int 0]))) := fr_nw f4.1 (fr_ob rfl)
  obtain ⟨g13, eg13, hyp⟩ := md_bd hyp
  obtain ⟨g15, eg15, hyp⟩ := md_bd hyp
  obtain ⟨g17, eg17, hyp⟩ := md_bd hyp
  obtain ⟨g19, eg19, hyp⟩ := md_bd hyp
  obtain ⟨g21, eg21, hyp⟩ := md_bd hyp
  obtain ⟨r22, er22, hyp⟩ := md_bd hyp
  have f22 := a_Lk_init er22 hF10 (fr_new f4.1) 
  obtain ⟨a23, ea23, hyp⟩ := md_bd hyp
  obtain ⟨r23, er23, hyp⟩ := md_bd hyp
  have f23 := a_AL_set er23 f22 (fr_rc (fr_gr f4.1 (ha) eg8) ea23) (fr_new f4.1)
  cases hyp
  exact f23.1
theorem a_Tk_signAnew {b N : Nat} {C : Nat × Nat} {h0 : ag_H} {a : Nat} {p1 : Int32} {h : ag_H} {res : (Int32) × ag_H} (hyp : fn_Tk_signAnew N C a p1 h = some res) (hF : fr_H b h0 h) (ha : fr_ok b (some a)) : fr_H b h0 res.2 := a_Tk_signAnew_0 ha hyp hF 
theorem a_GC_tamper_39 {b N : Nat} {C : Nat × Nat} {h0 : ag_H} {a : Nat} (ha : fr_ok b (some a)) {h : ag_H} {res : (Int32 ⊕ Nat) × ag_H} (hyp : fn_GC_tamper_39 N C a h = some res) (hF : fr_H b h0 h) : fr_H b h0 res.2 := by
  unfold fn_GC_tamper_39 at hyp
  obtain ⟨q1, hyp⟩ := md_ifs hyp
  cases hyp
  exact fr_nw hF (fr_ob rfl)
theorem a_GC_tamper_90 {b N : Nat} {C : Nat × Nat} {h0 : ag_H} {a : Nat} (ha : fr_ok b (some a)) {h : ag_H} {res : (Int32 ⊕ Nat) × ag_H} (hyp : fn_GC_tamper_90 N C a h = some res) (hF : fr_H b h0 h) : fr_H b h0 res.2 := by
  unfold fn_GC_tamper_90 at hyp
  obtain ⟨q1, hyp⟩ := md_ifs hyp
  cases hyp
  exact fr_nw hF (fr_ob rfl)
theorem a_GC_tamper_304 {b N : Nat} {C : Nat × Nat} {h0 : ag_H} {a : Nat} (ha : fr_ok b (some a)) {x6 : Option Nat} {h : ag_H} {res : (Int32 ⊕ Nat) × ag_H} (hyp : fn_GC_tamper_304 N C a x6 h = some res) (hF : fr_H b h0 h) (hx6 : fr_ok b x6) : fr_H b h0 res.2 := by
  unfold fn_GC_tamper_304 at hyp
  obtain ⟨a3, ea3, hyp⟩ := md_bd hyp
  obtain ⟨r3, er3, hyp⟩ := md_bd hyp
  have f3 := a_GC_keep er3 hF (fr_rc (ha) ea3) (hx6)
  cases hyp
  exact f3
theorem a_GC_tamper_98 {b N : Nat} {C : Nat × Nat} {h0 : ag_H} {a : Nat} (ha : fr_ok b (some a)) {x2 : Int32} {x3 : Int32} {x4 : Int32} {x5 : Option Nat} {h : ag_H} {res : (Int32 ⊕ Nat) × ag_H} (hyp : fn_GC_tamper_98 N C a x2 x3 x4 x5 h = some res) (hF : fr_H b h0 h) (hx5 : fr_ok b x5) : fr_H b h0 res.2 := by
  unfold fn_GC_tamper_98 at hyp
  obtain ⟨a2, ea2, hyp⟩ := md_bd hyp
  obtain ⟨r2, er2, hyp⟩ := md_bd hyp
  have f2 := a_Tk_copy er2 hF (fr_rc (hx5) ea2) 
  rcases fr_if hyp with ⟨q, hyp⟩ | ⟨q, hyp⟩
  · obtain ⟨g67, eg67, hyp⟩ := md_bd hyp
    obtain ⟨a68, ea68, hyp⟩ := md_bd hyp
    obtain ⟨r68, er68, hyp⟩ := md_bd hyp
    have f68 := a_AL_size er68 f2.1 (fr_rc (fr_gr f2.1 (f2.2) eg67) ea68) 
    obtain ⟨a71, ea71, hyp⟩ := md_bd hyp
    obtain ⟨r71, er71, hyp⟩ := md_bd hyp
    have f71 := a_Tk_cutTo er71 f68 (fr_rc (f2.2) ea71) 
    exact a_GC_tamper_304 ha hyp f71 (f2.2)
  · rcases fr_if hyp with ⟨q, hyp⟩ | ⟨q, hyp⟩
    · obtain ⟨a63, ea63, hyp⟩ := md_bd hyp
      obtain ⟨r63, er63, hyp⟩ := md_bd hyp
      have f63 := a_Tk_swapBlocks er63 f2.1 (fr_rc (f2.2) ea63) 
      exact a_GC_tamper_304 ha hyp f63 (f2.2)
    · rcases fr_if hyp with ⟨q, hyp⟩ | ⟨q, hyp⟩
      · obtain ⟨a58, ea58, hyp⟩ := md_bd hyp
        obtain ⟨r58, er58, hyp⟩ := md_bd hyp
        have f58 := a_Tk_swapLinks er58 f2.1 (fr_rc (f2.2) ea58) 
        exact a_GC_tamper_304 ha hyp f58 (f2.2)
      · rcases fr_if hyp with ⟨q, hyp⟩ | ⟨q, hyp⟩
        · obtain ⟨g45, eg45, hyp⟩ := md_bd hyp
          obtain ⟨a46, ea46, hyp⟩ := md_bd hyp
          obtain ⟨r46, er46, hyp⟩ := md_bd hyp
          have f46 := a_AL_size er46 f2.1 (fr_rc (fr_gr f2.1 (ha) eg45) ea46) 
          obtain ⟨g48, eg48, hyp⟩ := md_bd hyp
          obtain ⟨a50, ea50, hyp⟩ := md_bd hyp
          obtain ⟨r50, er50, hyp⟩ := md_bd hyp
          have f50 := a_AL_get er50 f46 (fr_rc (fr_gr f46 (f2.2) eg48) ea50) 
          obtain ⟨q51, hyp⟩ := md_ifs hyp
          obtain ⟨g52, eg52, hyp⟩ := md_bd hyp
          obtain ⟨a53, ea53, hyp⟩ := md_bd hyp
          obtain ⟨r53, er53, hyp⟩ := md_bd hyp
          have f53 := a_Tk_changeLink er53 f50.1 (fr_rc (f2.2) ea53) 
          exact a_GC_tamper_304 ha hyp f53 (f2.2)
        · rcases fr_if hyp with ⟨q, hyp⟩ | ⟨q, hyp⟩
          · obtain ⟨g33, eg33, hyp⟩ := md_bd hyp
            obtain ⟨a35, ea35, hyp⟩ := md_bd hyp
            obtain ⟨r35, er35, hyp⟩ := md_bd hyp
            have f35 := a_AL_get er35 f2.1 (fr_rc (fr_gr f2.1 (f2.2) eg33) ea35) 
            obtain ⟨q36, hyp⟩ := md_ifs hyp
            obtain ⟨g37, eg37, hyp⟩ := md_bd hyp
            obtain ⟨a39, ea39, hyp⟩ := md_bd hyp
            obtain ⟨r39, er39, hyp⟩ := md_bd hyp
            have f39 := a_GC_newKey er39 f35.1 (fr_rc (ha) ea39) 
            obtain ⟨a40, ea40, hyp⟩ := md_bd hyp
            obtain ⟨r40, er40, hyp⟩ := md_bd hyp
            have f40 := a_Tk_changeLink er40 f39 (fr_rc (f2.2) ea40) 
            exact a_GC_tamper_304 ha hyp f40 (f2.2)
          · rcases fr_if hyp with ⟨q, hyp⟩ | ⟨q, hyp⟩
            · obtain ⟨g12, eg12, hyp⟩ := md_bd hyp
              obtain ⟨a14, ea14, hyp⟩ := md_bd hyp
              obtain ⟨r14, er14, hyp⟩ := md_bd hyp
              have f14 := a_AL_get er14 f2.1 (fr_rc (fr_gr f2.1 (f2.2) eg12) ea14) 
              obtain ⟨q15, hyp⟩ := md_ifs hyp
              obtain ⟨g16, eg16, hyp⟩ := md_bd hyp
              obtain ⟨a18, ea18, hyp⟩ := md_bd hyp
              obtain ⟨r18, er18, hyp⟩ := md_bd hyp
              have f18 := a_GC_newKey er18 f14.1 (fr_rc (ha) ea18) 
              obtain ⟨a19, ea19, hyp⟩ := md_bd hyp
              obtain ⟨r19, er19, hyp⟩ := md_bd hyp
              have f19 := a_Tk_changeLink er19 f18 (fr_rc (f2.2) ea19) 
              obtain ⟨a24, ea24, hyp⟩ := md_bd hyp
              obtain ⟨r24, er24, hyp⟩ := md_bd hyp
              have f24 := a_Tk_cutTo er24 f19 (fr_rc (f2.2) ea24) 
              obtain ⟨g27, eg27, hyp⟩ := md_bd hyp
              obtain ⟨a28, ea28, hyp⟩ := md_bd hyp
              obtain ⟨r28, er28, hyp⟩ := md_bd hyp
              have f28 := a_Tk_openWith er28 f24 (fr_rc (f2.2) ea28) 
              exact a_GC_tamper_304 ha hyp f28 (f2.2)
            · obtain ⟨a8, ea8, hyp⟩ := md_bd hyp
              obtain ⟨r8, er8, hyp⟩ := md_bd hyp
              have f8 := a_Tk_signAnew er8 f2.1 (fr_rc (f2.2) ea8) 
              exact a_GC_tamper_304 ha hyp f8 (f2.2)
theorem a_GC_tamper_0 {b N : Nat} {C : Nat × Nat} {h0 : ag_H} {a : Nat} (ha : fr_ok b (some a)) {x1 : Int32} {x2 : Int32} {x3 : Int32} {x4 : Int32} {h : ag_H} {res : (Int32 ⊕ Nat) × ag_H} (hyp : fn_GC_tamper_0 N C a x1 x2 x3 x4 h = some res) (hF : fr_H b h0 h) : fr_H b h0 res.2 := by
  unfold fn_GC_tamper_0 at hyp
  obtain ⟨a3, ea3, hyp⟩ := md_bd hyp
  obtain ⟨r3, er3, hyp⟩ := md_bd hyp
  have f3 := a_GC_isToken er3 hF (fr_rc (ha) ea3) 
  rcases fr_if hyp with ⟨q, hyp⟩ | ⟨q, hyp⟩
  · exact a_GC_tamper_39 ha hyp f3
  · obtain ⟨g6, eg6, hyp⟩ := md_bd hyp
    obtain ⟨a8, ea8, hyp⟩ := md_bd hyp
    obtain ⟨r8, er8, hyp⟩ := md_bd hyp
    have f8 := a_AL_get er8 f3 (fr_rc (fr_gr f3 (ha) eg6) ea8) 
    obtain ⟨q9, hyp⟩ := md_ifs hyp
    obtain ⟨g10, eg10, hyp⟩ := md_bd hyp
    obtain ⟨a11, ea11, hyp⟩ := md_bd hyp
    obtain ⟨r11, er11, hyp⟩ := md_bd hyp
    have f11 := a_AL_size er11 f8.1 (fr_rc (fr_gr f8.1 (f8.2) eg10) ea11) 
    obtain ⟨r15, er15, hyp⟩ := md_bd hyp
    have f15 := a_GC_canTamper er15 f11 
    rcases fr_if hyp with ⟨q, hyp⟩ | ⟨q, hyp⟩
    · exact a_GC_tamper_39 ha hyp f15
    · obtain ⟨g18, eg18, hyp⟩ := md_bd hyp
      obtain ⟨a20, ea20, hyp⟩ := md_bd hyp
      obtain ⟨r20, er20, hyp⟩ := md_bd hyp
      have f20 := a_AL_get er20 f15 (fr_rc (fr_gr f15 (ha) eg18) ea20) 
      obtain ⟨q21, hyp⟩ := md_ifs hyp
      obtain ⟨g24, eg24, hyp⟩ := md_bd hyp
      obtain ⟨a25, ea25, hyp⟩ := md_bd hyp
      obtain ⟨r25, er25, hyp⟩ := md_bd hyp
      have f25 := a_AL_size er25 f20.1 (fr_rc (fr_gr f20.1 (ha) eg24) ea25) 
      rcases fr_if hyp with ⟨q, hyp⟩ | ⟨q, hyp⟩
      · exact a_GC_tamper_90 ha hyp f25
      · rcases fr_if hyp with ⟨q, hyp⟩ | ⟨q, hyp⟩
        · obtain ⟨g32, eg32, hyp⟩ := md_bd hyp
          rcases fr_if hyp with ⟨q, hyp⟩ | ⟨q, hyp⟩
          · exact a_GC_tamper_98 ha hyp f25 (f20.2)
          · exact a_GC_tamper_90 ha hyp f25
        · exact a_GC_tamper_98 ha hyp f25 (f20.2)
theorem a_GC_tamper {b N : Nat} {C : Nat × Nat} {h0 : ag_H} {a : Nat} {p1 : Int32} {p2 : Int32} {p3 : Int32} {p4 : Int32} {h : ag_H} {res : (Int32 ⊕ Nat) × ag_H} (hyp : fn_GC_tamper N C a p1 p2 p3 p4 h = some res) (hF : fr_H b h0 h) (ha : fr_ok b (some a)) : fr_H b h0 res.2 := a_GC_tamper_0 ha hyp hF 
theorem a_Fa_begin_0 {b N : Nat} {C : Nat × Nat} {h0 : ag_H} {a : Nat} (ha : fr_ok b (some a)) {x1 : Int32} {h : ag_H} {res : (Int32) × ag_H} (hyp : fn_Fa_begin_0 N C a x1 h = some res) (hF : fr_H b h0 h) : fr_H b h0 res.2 := by
  unfold fn_Fa_begin_0 at hyp
  obtain ⟨h3, eh3, hyp⟩ := md_bd hyp
  have hF3 : fr_H b h0 h3 := fr_pf hF (ha) fr_vi eh3
  obtain ⟨h6, eh6, hyp⟩ := md_bd hyp
  have hF6 : fr_H b h0 h6 := fr_pf hF3 (ha) fr_vi eh6
  obtain ⟨h9, eh9, hyp⟩ := md_bd hyp
  have hF9 : fr_H b h0 h9 := fr_pf hF6 (ha) fr_vi eh9
  cases hyp
  exact hF9
theorem a_Fa_begin {b N : Nat} {C : Nat × Nat} {h0 : ag_H} {a : Nat} {p1 : Int32} {h : ag_H} {res : (Int32) × ag_H} (hyp : fn_Fa_begin N C a p1 h = some res) (hF : fr_H b h0 h) (ha : fr_ok b (some a)) : fr_H b h0 res.2 := a_Fa_begin_0 ha hyp hF 
theorem a_Jg_begin_0 {b N : Nat} {C : Nat × Nat} {h0 : ag_H} {a : Nat} (ha : fr_ok b (some a)) {x1 : Int32} {h : ag_H} {res : (Int32) × ag_H} (hyp : fn_Jg_begin_0 N C a x1 h = some res) (hF : fr_H b h0 h) : fr_H b h0 res.2 := by
  unfold fn_Jg_begin_0 at hyp
  obtain ⟨g2, eg2, hyp⟩ := md_bd hyp
  obtain ⟨a4, ea4, hyp⟩ := md_bd hyp
  obtain ⟨r4, er4, hyp⟩ := md_bd hyp
  have f4 := a_Fa_begin er4 hF (fr_rc (fr_gr hF (ha) eg2) ea4) 
  obtain ⟨h7, eh7, hyp⟩ := md_bd hyp
  have hF7 : fr_H b h0 h7 := fr_pf f4 (ha) fr_vi eh7
  obtain ⟨h10, eh10, hyp⟩ := md_bd hyp
  have hF10 : fr_H b h0 h10 := fr_pf hF7 (ha) fr_vi eh10
  cases hyp
  exact hF10
theorem a_Jg_begin {b N : Nat} {C : Nat × Nat} {h0 : ag_H} {a : Nat} {p1 : Int32} {h : ag_H} {res : (Int32) × ag_H} (hyp : fn_Jg_begin N C a p1 h = some res) (hF : fr_H b h0 h) (ha : fr_ok b (some a)) : fr_H b h0 res.2 := a_Jg_begin_0 ha hyp hF 
theorem a_Lk_isSignedBy_35 {b N : Nat} {C : Nat × Nat} {h0 : ag_H} {a : Nat} (ha : fr_ok b (some a)) {s0 : Int32} {h : ag_H} {res : (Int32) × ag_H} (hyp : fn_Lk_isSignedBy_35 N C a s0 h = some res) (hF : fr_H b h0 h) : fr_H b h0 res.2 := by
  unfold fn_Lk_isSignedBy_35 at hyp
  obtain ⟨q1, hyp⟩ := md_ifs hyp
  cases hyp
  exact hF
theorem a_Lk_isSignedBy_34 {b N : Nat} {C : Nat × Nat} {h0 : ag_H} {a : Nat} (ha : fr_ok b (some a)) {h : ag_H} {res : (Int32) × ag_H} (hyp : fn_Lk_isSignedBy_34 N C a h = some res) (hF : fr_H b h0 h) : fr_H b h0 res.2 := by
  unfold fn_Lk_isSignedBy_34 at hyp
  exact a_Lk_isSignedBy_35 ha hyp hF 
theorem a_Lk_isSignedBy_0 {b N : Nat} {C : Nat × Nat} {h0 : ag_H} {a : Nat} (ha : fr_ok b (some a)) {x1 : Int32} {h : ag_H} {res : (Int32) × ag_H} (hyp : fn_Lk_isSignedBy_0 N C a x1 h = some res) (hF : fr_H b h0 h) : fr_H b h0 res.2 := by
  unfold fn_Lk_isSignedBy_0 at hyp
  obtain ⟨g2, eg2, hyp⟩ := md_bd hyp
  rcases fr_if hyp with ⟨q, hyp⟩ | ⟨q, hyp⟩
  · obtain ⟨g6, eg6, hyp⟩ := md_bd hyp
    obtain ⟨g8, eg8, hyp⟩ := md_bd hyp
    rcases fr_if hyp with ⟨q, hyp⟩ | ⟨q, hyp⟩
    · obtain ⟨g11, eg11, hyp⟩ := md_bd hyp
      obtain ⟨g13, eg13, hyp⟩ := md_bd hyp
      rcases fr_if hyp with ⟨q, hyp⟩ | ⟨q, hyp⟩
      · exact a_Lk_isSignedBy_35 ha hyp hF
      · exact a_Lk_isSignedBy_34 ha hyp hF
    · exact a_Lk_isSignedBy_34 ha hyp hF
  · exact a_Lk_isSignedBy_34 ha hyp hF
theorem a_Lk_isSignedBy {b N : Nat} {C : Nat × Nat} {h0 : ag_H} {a : Nat} {p1 : Int32} {h : ag_H} {res : (Int32) × ag_H} (hyp : fn_Lk_isSignedBy N C a p1 h = some res) (hF : fr_H b h0 h) (ha : fr_ok b (some a)) : fr_H b h0 res.2 := a_Lk_isSignedBy_0 ha hyp hF 
theorem a_Tk_isRightFor_91 {b N : Nat} {C : Nat × Nat} {h0 : ag_H} {a : Nat} (ha : fr_ok b (some a)) {s0 : Int32} {h : ag_H} {res : (Int32) × ag_H} (hyp : fn_Tk_isRightFor_91 N C a s0 h = some res) (hF : fr_H b h0 h) : fr_H b h0 res.2 := by
  unfold fn_Tk_isRightFor_91 at hyp
  obtain ⟨q1, hyp⟩ := md_ifs hyp
  cases hyp
  exact hF
theorem a_Tk_isRightFor_90 {b N : Nat} {C : Nat × Nat} {h0 : ag_H} {a : Nat} (ha : fr_ok b (some a)) {h : ag_H} {res : (Int32) × ag_H} (hyp : fn_Tk_isRightFor_90 N C a h = some res) (hF : fr_H b h0 h) : fr_H b h0 res.2 := by
  unfold fn_Tk_isRightFor_90 at hyp
  exact a_Tk_isRightFor_91 ha hyp hF 
theorem a_Tk_isRightFor_86 {b N : Nat} {C : Nat × Nat} {h0 : ag_H} {a : Nat} (ha : fr_ok b (some a)) {h : ag_H} {res : (Int32) × ag_H} (hyp : fn_Tk_isRightFor_86 N C a h = some res) (hF : fr_H b h0 h) : fr_H b h0 res.2 := by
  unfold fn_Tk_isRightFor_86 at hyp
  exact a_Tk_isRightFor_91 ha hyp hF 
theorem a_Tk_isRightFor_4 {b N : Nat} {C : Nat × Nat} {h0 : ag_H} {a : Nat} (ha : fr_ok b (some a)) : ∀ (n : Nat) (res : (Int32) × ag_H) (x2 : Int32) (x3 : Int32) (h : ag_H) , fn_Tk_isRightFor_4 N C a n x2 x3 h = some res → fr_H b h0 h → fr_H b h0 res.2 := by
  intro n
  induction n with
  | zero =>
    intro res x2 x3 h hyp
    cases hyp
  | succ n ih =>
    intro res x2 x3 h hyp hF 
    rw [fe_Tk_isRightFor_4] at hyp
    obtain ⟨g3, eg3, hyp⟩ := md_bd hyp
    obtain ⟨a4, ea4, hyp⟩ := md_bd hyp
    obtain ⟨r4, er4, hyp⟩ := md_bd hyp
    have f4 := a_AL_size er4 hF (fr_rc (fr_gr hF (ha) eg3) ea4) 
    rcases fr_if hyp with ⟨q, hyp⟩ | ⟨q, hyp⟩
    · obtain ⟨g7, eg7, hyp⟩ := md_bd hyp
      rcases fr_if hyp with ⟨q, hyp⟩ | ⟨q, hyp⟩
      · obtain ⟨g11, eg11, hyp⟩ := md_bd hyp
        rcases fr_if hyp with ⟨q, hyp⟩ | ⟨q, hyp⟩
        · exact a_Tk_isRightFor_86 ha hyp f4
        · obtain ⟨g14, eg14, hyp⟩ := md_bd hyp
          obtain ⟨g16, eg16, hyp⟩ := md_bd hyp
          obtain ⟨a17, ea17, hyp⟩ := md_bd hyp
          obtain ⟨r17, er17, hyp⟩ := md_bd hyp
          have f17 := a_AL_size er17 f4 (fr_rc (fr_gr f4 (ha) eg16) ea17) 
          rcases fr_if hyp with ⟨q, hyp⟩ | ⟨q, hyp⟩
          · exact a_Tk_isRightFor_86 ha hyp f17
          · exact a_Tk_isRightFor_90 ha hyp f17
      · exact a_Tk_isRightFor_90 ha hyp f4
    · obtain ⟨g20, eg20, hyp⟩ := md_bd hyp
      obtain ⟨a22, ea22, hyp⟩ := md_bd hyp
      obtain ⟨r22, er22, hyp⟩ := md_bd hyp
      have f22 := a_AL_get er22 f4 (fr_rc (fr_gr f4 (ha) eg20) ea22) 
      obtain ⟨q23, hyp⟩ := md_ifs hyp
      obtain ⟨a27, ea27, hyp⟩ := md_bd hyp
      obtain ⟨r27, er27, hyp⟩ := md_bd hyp
      have f27 := a_Lk_isSignedBy er27 f22.1 (fr_rc (f22.2) ea27) 
      rcases fr_if hyp with ⟨q, hyp⟩ | ⟨q, hyp⟩
      · obtain ⟨q35, hyp⟩ := md_ifs hyp
        cases hyp
        exact f27
      · obtain ⟨g30, eg30, hyp⟩ := md_bd hyp
        exact ih _ _ _ _ hyp f27 
theorem a_Tk_isRightFor_0 {b N : Nat} {C : Nat × Nat} {h0 : ag_H} {a : Nat} (ha : fr_ok b (some a)) {x1 : Int32} {h : ag_H} {res : (Int32) × ag_H} (hyp : fn_Tk_isRightFor_0 N C a x1 h = some res) (hF : fr_H b h0 h) : fr_H b h0 res.2 := by
  unfold fn_Tk_isRightFor_0 at hyp
  exact a_Tk_isRightFor_4 ha N _ _ _ _ hyp hF 
theorem a_Tk_isRightFor {b N : Nat} {C : Nat × Nat} {h0 : ag_H} {a : Nat} {p1 : Int32} {h : ag_H} {res : (Int32) × ag_H} (hyp : fn_Tk_isRightFor N C a p1 h = some res) (hF : fr_H b h0 h) (ha : fr_ok b (some a)) : fr_H b h0 res.2 := a_Tk_isRightFor_0 ha hyp hF 
theorem a_Fa_order_30 {b N : Nat} {C : Nat × Nat} {h0 : ag_H} {s0 : Int32} {h : ag_H} {res : (Int32) × ag_H} (hyp : fn_Fa_order_30 N C s0 h = some res) (hF : fr_H b h0 h) : fr_H b h0 res.2 := by
  unfold fn_Fa_order_30 at hyp
  cases hyp
  exact hF
theorem a_Fa_order_2 {b N : Nat} {C : Nat × Nat} {h0 : ag_H} : ∀ (n : Nat) (res : (Int32) × ag_H) (x0 : Option Nat) (x1 : Option Nat) (x2 : Int32) (h : ag_H) , fn_Fa_order_2 N C n x0 x1 x2 h = some res → fr_H b h0 h → fr_ok b x0 → fr_ok b x1 → fr_H b h0 res.2 := by
  intro n
  induction n with
  | zero =>
    intro res x0 x1 x2 h hyp
    cases hyp
  | succ n ih =>
    intro res x0 x1 x2 h hyp hF hx0 hx1
    rw [fe_Fa_order_2] at hyp
    rcases fr_if hyp with ⟨q, hyp⟩ | ⟨q, hyp⟩
    · cases hyp
      exact hF
    · obtain ⟨p8, ep8, hyp⟩ := md_bd hyp
      obtain ⟨q8, hyp⟩ := md_ifs hyp
      obtain ⟨p11, ep11, hyp⟩ := md_bd hyp
      obtain ⟨q11, hyp⟩ := md_ifs hyp
      rcases fr_if hyp with ⟨q, hyp⟩ | ⟨q, hyp⟩
      · exact ih _ _ _ _ _ hyp hF (hx0) (hx1)
      · obtain ⟨p17, ep17, hyp⟩ := md_bd hyp
        obtain ⟨q17, hyp⟩ := md_ifs hyp
        obtain ⟨p20, ep20, hyp⟩ := md_bd hyp
        obtain ⟨q20, hyp⟩ := md_ifs hyp
        rcases fr_if hyp with ⟨q, hyp⟩ | ⟨q, hyp⟩
        · exact a_Fa_order_30 hyp hF
        · exact a_Fa_order_30 hyp hF
theorem a_Fa_order_0 {b N : Nat} {C : Nat × Nat} {h0 : ag_H} {x0 : Option Nat} {x1 : Option Nat} {h : ag_H} {res : (Int32) × ag_H} (hyp : fn_Fa_order_0 N C x0 x1 h = some res) (hF : fr_H b h0 h) (hx0 : fr_ok b x0) (hx1 : fr_ok b x1) : fr_H b h0 res.2 := by
  unfold fn_Fa_order_0 at hyp
  exact a_Fa_order_2 N _ _ _ _ _ hyp hF (hx0) (hx1)
theorem a_Fa_order {b N : Nat} {C : Nat × Nat} {h0 : ag_H} {p0 : Option Nat} {p1 : Option Nat} {h : ag_H} {res : (Int32) × ag_H} (hyp : fn_Fa_order N C p0 p1 h = some res) (hF : fr_H b h0 h) (hp0 : fr_ok b p0) (hp1 : fr_ok b p1) : fr_H b h0 res.2 := a_Fa_order_0 hyp hF hp0 hp1
theorem a_Fa_sort_72 {b N : Nat} {C : Nat × Nat} {h0 : ag_H} {a : Nat} (ha : fr_ok b (some a)) {k2 : Int32 → ag_H → Option ((Int32) × ag_H)} (hk2 : ∀ (res : (Int32) × ag_H) (y1 : Int32) (hh : ag_H), k2 y1 hh = some res → fr_H b h0 hh → fr_H b h0 res.2) {x1 : Int32} {h : ag_H} {res : (Int32) × ag_H} (hyp : fn_Fa_sort_72 N C a k2 x1 h = some res) (hF : fr_H b h0 h) : fr_H b h0 res.2 := by
  unfold fn_Fa_sort_72 at hyp
  exact hk2 _ _ _ hyp hF 
theorem a_Fa_sort_12 {b N : Nat} {C : Nat × Nat} {h0 : ag_H} {a : Nat} (ha : fr_ok b (some a)) {k2 : Int32 → ag_H → Option ((Int32) × ag_H)} (hk2 : ∀ (res : (Int32) × ag_H) (y1 : Int32) (hh : ag_H), k2 y1 hh = some res → fr_H b h0 hh → fr_H b h0 res.2) : ∀ (n : Nat) (res : (Int32) × ag_H) (x1 : Int32) (x2 : Int32) (h : ag_H) , fn_Fa_sort_12 N C a k2 n x1 x2 h = some res → fr_H b h0 h → fr_H b h0 res.2 := by
  intro n
  induction n with
  | zero =>
    intro res x1 x2 h hyp
    cases hyp
  | succ n ih =>
    intro res x1 x2 h hyp hF 
    rw [fe_Fa_sort_12] at hyp
    rcases fr_if hyp with ⟨q, hyp⟩ | ⟨q, hyp⟩
    · exact a_Fa_sort_72 ha hk2 hyp hF
    · obtain ⟨g4, eg4, hyp⟩ := md_bd hyp
      obtain ⟨p8, ep8, hyp⟩ := md_bd hyp
      obtain ⟨q8, hyp⟩ := md_ifs hyp
      obtain ⟨g10, eg10, hyp⟩ := md_bd hyp
      obtain ⟨p12, ep12, hyp⟩ := md_bd hyp
      obtain ⟨q12, hyp⟩ := md_ifs hyp
      obtain ⟨r13, er13, hyp⟩ := md_bd hyp
      have f13 := a_Fa_order er13 hF (fr_ao hF (fr_gr hF (ha) eg4) ep8 _) (fr_ao hF (fr_gr hF (ha) eg10) ep12 _)
      rcases fr_if hyp with ⟨q, hyp⟩ | ⟨q, hyp⟩
      · exact a_Fa_sort_72 ha hk2 hyp f13
      · obtain ⟨g16, eg16, hyp⟩ := md_bd hyp
        obtain ⟨p18, ep18, hyp⟩ := md_bd hyp
        obtain ⟨q18, hyp⟩ := md_ifs hyp
        obtain ⟨g21, eg21, hyp⟩ := md_bd hyp
        obtain ⟨g24, eg24, hyp⟩ := md_bd hyp
        obtain ⟨p28, ep28, hyp⟩ := md_bd hyp
        obtain ⟨q28, hyp⟩ := md_ifs hyp
        obtain ⟨h29, eh29, hyp⟩ := md_bd hyp
        have hF29 : fr_H b h0 h29 := fr_asi f13 (fr_gr f13 (ha) eg21) (fr_ao f13 (fr_gr f13 (ha) eg24) ep28 _) eh29
        obtain ⟨g31, eg31, hyp⟩ := md_bd hyp
        obtain ⟨h36, eh36, hyp⟩ := md_bd hyp
        have hF36 : fr_H b h0 h36 := fr_asi hF29 (fr_gr hF29 (ha) eg31) (fr_ao f13 (fr_gr f13 (ha) eg16) ep18 _) eh36
        exact ih _ _ _ _ hyp hF36 
theorem a_Fa_sort_2 {b N : Nat} {C : Nat × Nat} {h0 : ag_H} {a : Nat} (ha : fr_ok b (some a)) : ∀ (n : Nat) (res : (Int32) × ag_H) (x1 : Int32) (h : ag_H) , fn_Fa_sort_2 N C a n x1 h = some res → fr_H b h0 h → fr_H b h0 res.2 := by
  intro n
  induction n with
  | zero =>
    intro res x1 h hyp
    cases hyp
  | succ n ih =>
    intro res x1 h hyp hF 
    rw [fe_Fa_sort_2] at hyp
    obtain ⟨g3, eg3, hyp⟩ := md_bd hyp
    rcases fr_if hyp with ⟨q, hyp⟩ | ⟨q, hyp⟩
    · cases hyp
      exact hF
    · exact a_Fa_sort_12 ha ih N _ _ _ _ hyp hF
theorem a_Fa_sort_0 {b N : Nat} {C : Nat × Nat} {h0 : ag_H} {a : Nat} (ha : fr_ok b (some a)) {h : ag_H} {res : (Int32) × ag_H} (hyp : fn_Fa_sort_0 N C a h = some res) (hF : fr_H b h0 h) : fr_H b h0 res.2 := by
  unfold fn_Fa_sort_0 at hyp
  exact a_Fa_sort_2 ha N _ _ _ hyp hF 
theorem a_Fa_sort {b N : Nat} {C : Nat × Nat} {h0 : ag_H} {a : Nat} {h : ag_H} {res : (Int32) × ag_H} (hyp : fn_Fa_sort N C a h = some res) (hF : fr_H b h0 h) (ha : fr_ok b (some a)) : fr_H b h0 res.2 := a_Fa_sort_0 ha hyp hF 
theorem a_Jg_end_30 {b N : Nat} {C : Nat × Nat} {h0 : ag_H} {a : Nat} (ha : fr_ok b (some a)) {x1 : Int32} {h : ag_H} {res : (Int32) × ag_H} (hyp : fn_Jg_end_30 N C a x1 h = some res) (hF : fr_H b h0 h) : fr_H b h0 res.2 := by
  unfold fn_Jg_end_30 at hyp
  obtain ⟨g2, eg2, hyp⟩ := md_bd hyp
  obtain ⟨a3, ea3, hyp⟩ := md_bd hyp
  obtain ⟨r3, er3, hyp⟩ := md_bd hyp
  have f3 := a_Fa_sort er3 hF (fr_rc (fr_gr hF (ha) eg2) ea3) 
  obtain ⟨h6, eh6, hyp⟩ := md_bd hyp
  have hF6 : fr_H b h0 h6 := fr_pf f3 (ha) fr_vi eh6
  cases hyp
  exact hF6
theorem a_Jg_end_19 {b N : Nat} {C : Nat × Nat} {h0 : ag_H} {a : Nat} (ha : fr_ok b (some a)) {x1 : Int32} {h : ag_H} {res : (Int32) × ag_H} (hyp : fn_Jg_end_19 N C a x1 h = some res) (hF : fr_H b h0 h) : fr_H b h0 res.2 := by
  unfold fn_Jg_end_19 at hyp
  rcases fr_if hyp with ⟨q, hyp⟩ | ⟨q, hyp⟩
  · exact a_Jg_end_30 ha hyp hF
  · obtain ⟨h6, eh6, hyp⟩ := md_bd hyp
    have hF6 : fr_H b h0 h6 := fr_pf hF (ha) fr_vi eh6
    exact a_Jg_end_30 ha hyp hF6 
theorem a_Jg_end_11 {b N : Nat} {C : Nat × Nat} {h0 : ag_H} {a : Nat} (ha : fr_ok b (some a)) {x1 : Int32} {h : ag_H} {res : (Int32) × ag_H} (hyp : fn_Jg_end_11 N C a x1 h = some res) (hF : fr_H b h0 h) : fr_H b h0 res.2 := by
  unfold fn_Jg_end_11 at hyp
  obtain ⟨g2, eg2, hyp⟩ := md_bd hyp
  obtain ⟨h4, eh4, hyp⟩ := md_bd hyp
  have hF4 : fr_H b h0 h4 := fr_pf hF (fr_gr hF (ha) eg2) fr_vi eh4
  exact a_Jg_end_19 ha hyp hF4 
theorem a_Jg_end_0 {b N : Nat} {C : Nat × Nat} {h0 : ag_H} {a : Nat} (ha : fr_ok b (some a)) {x1 : Int32} {h : ag_H} {res : (Int32) × ag_H} (hyp : fn_Jg_end_0 N C a x1 h = some res) (hF : fr_H b h0 h) : fr_H b h0 res.2 := by
  unfold fn_Jg_end_0 at hyp
  rcases fr_if hyp with ⟨q, hyp⟩ | ⟨q, hyp⟩
  · exact a_Jg_end_11 ha hyp hF
  · rcases fr_if hyp with ⟨q, hyp⟩ | ⟨q, hyp⟩
    · exact a_Jg_end_11 ha hyp hF
    · exact a_Jg_end_19 ha hyp hF
theorem a_Jg_end {b N : Nat} {C : Nat × Nat} {h0 : ag_H} {a : Nat} {p1 : Int32} {h : ag_H} {res : (Int32) × ag_H} (hyp : fn_Jg_end N C a p1 h = some res) (hF : fr_H b h0 h) (ha : fr_ok b (some a)) : fr_H b h0 res.2 := a_Jg_end_0 ha hyp hF 
