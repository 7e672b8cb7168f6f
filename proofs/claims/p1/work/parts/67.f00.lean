/-! frame: Ln_init, Rd_init, Fa_init, AbC_init, AbL_init, AL_init, Bk_init, Jg_init, GC_init, Ln_put, GC_type, GC_wipe, AL_clear, GC_clear, GC_limits, GC_latest, AL_size, GC_count, Ln_sign, Ln_takes, Rd_readKind, Rd_isName, At_init, Rd_isVariable -/
theorem a_Ln_init_0 {b N : Nat} {C : Nat × Nat} {h0 : ag_H} {a : Nat} (ha : fr_ok b (some a)) {h : ag_H} {res : (Int32) × ag_H} (hyp : fn_Ln_init_0 N C a h = some res) (hF : fr_H b h0 h) : fr_H b h0 res.2 := by
  unfold fn_Ln_init_0 at hyp
  obtain ⟨q5, hyp⟩ := md_ifs hyp
  have hF5 : fr_H b h0 (ag_nw h ((Int8.ofInt (40)).toInt32).toNatClampNeg (.inl (1, ((Int8.ofInt (40)).toInt32).toNatClampNeg, .inl (fun _ => 0)))) := fr_nw hF trivial
  obtain ⟨h6, eh6, hyp⟩ := md_bd hyp
  have hF6 : fr_H b h0 h6 := fr_pf hF5 (ha) (fr_vr (r := (some (h.1))) (fr_new hF)) eh6
  cases hyp
  exact hF6
theorem a_Ln_init {b N : Nat} {C : Nat × Nat} {h0 : ag_H} {a : Nat} {h : ag_H} {res : (Int32) × ag_H} (hyp : fn_Ln_init N C a h = some res) (hF : fr_H b h0 h) (ha : fr_ok b (some a)) : fr_H b h0 res.2 := a_Ln_init_0 ha hyp hF 
theorem a_Rd_init_0 {b N : Nat} {C : Nat × Nat} {h0 : ag_H} {a : Nat} (ha : fr_ok b (some a)) {h : ag_H} {res : (Int32) × ag_H} (hyp : fn_Rd_init_0 N C a h = some res) (hF : fr_H b h0 h) : fr_H b h0 res.2 := by
  unfold fn_Rd_init_0 at hyp
  obtain ⟨q5, hyp⟩ := md_ifs hyp
  have hF5 : fr_H b h0 (ag_nw h ((Int8.ofInt (40)).toInt32).toNatClampNeg (.inl (0, ((Int8.ofInt (40)).toInt32).toNatClampNeg, .inl (fun _ => 0)))) := fr_nw hF trivial
  obtain ⟨h6, eh6, hyp⟩ := md_bd hyp
  have hF6 : fr_H b h0 h6 := fr_pf hF5 (ha) (fr_vr (r := (some (h.1))) (fr_new hF)) eh6
  cases hyp
  exact hF6
theorem a_Rd_init {b N : Nat} {C : Nat × Nat} {h0 : ag_H} {a : Nat} {h : ag_H} {res : (Int32) × ag_H} (hyp : fn_Rd_init N C a h = some res) (hF : fr_H b h0 h) (ha : fr_ok b (some a)) : fr_H b h0 res.2 := a_Rd_init_0 ha hyp hF 
theorem a_Fa_init_0 {b N : Nat} {C : Nat × Nat} {h0 : ag_H} {a : Nat} (ha : fr_ok b (some a)) {h : ag_H} {res : (Int32) × ag_H} (hyp : fn_Fa_init_0 N C a h = some res) (hF : fr_H b h0 h) : fr_H b h0 res.2 := by
  unfold fn_Fa_init_0 at hyp
  obtain ⟨q6, hyp⟩ := md_ifs hyp
  have hF6 : fr_H b h0 (ag_mn h ((Int8.ofInt (31)).toInt32).toNatClampNeg (Int32.ofInt 5).toNatClampNeg) := fr_mn hF
  obtain ⟨h7, eh7, hyp⟩ := md_bd hyp
  have hF7 : fr_H b h0 h7 := fr_pf hF6 (ha) (fr_vr (r := (some (h.1))) (fr_new hF)) eh7
  cases hyp
  exact hF7
theorem a_Fa_init {b N : Nat} {C : Nat × Nat} {h0 : ag_H} {a : Nat} {h : ag_H} {res : (Int32) × ag_H} (hyp : fn_Fa_init N C a h = some res) (hF : fr_H b h0 h) (ha : fr_ok b (some a)) : fr_H b h0 res.2 := a_Fa_init_0 ha hyp hF 
theorem a_AbC_init_0 {b N : Nat} {C : Nat × Nat} {h0 : ag_H} {a : Nat} (ha : fr_ok b (some a)) {h : ag_H} {res : (Int32) × ag_H} (hyp : fn_AbC_init_0 N C a h = some res) (hF : fr_H b h0 h) : fr_H b h0 res.2 := by
  unfold fn_AbC_init_0 at hyp
  cases hyp
  exact hF
theorem a_AbC_init {b N : Nat} {C : Nat × Nat} {h0 : ag_H} {a : Nat} {h : ag_H} {res : (Int32) × ag_H} (hyp : fn_AbC_init N C a h = some res) (hF : fr_H b h0 h) (ha : fr_ok b (some a)) : fr_H b h0 res.2 := a_AbC_init_0 ha hyp hF 
theorem a_AbL_init_0 {b N : Nat} {C : Nat × Nat} {h0 : ag_H} {a : Nat} (ha : fr_ok b (some a)) {h : ag_H} {res : (Int32) × ag_H} (hyp : fn_AbL_init_0 N C a h = some res) (hF : fr_H b h0 h) : fr_H b h0 res.2 := by
  unfold fn_AbL_init_0 at hyp
  obtain ⟨r2, er2, hyp⟩ := md_bd hyp
  have f2 := a_AbC_init er2 hF (ha) 
  obtain ⟨h5, eh5, hyp⟩ := md_bd hyp
  have hF5 : fr_H b h0 h5 := fr_pf f2 (ha) fr_vi eh5
  cases hyp
  exact hF5
theorem a_AbL_init {b N : Nat} {C : Nat × Nat} {h0 : ag_H} {a : Nat} {h : ag_H} {res : (Int32) × ag_H} (hyp : fn_AbL_init N C a h = some res) (hF : fr_H b h0 h) (ha : fr_ok b (some a)) : fr_H b h0 res.2 := a_AbL_init_0 ha hyp hF 
theorem a_AL_init_0 {b N : Nat} {C : Nat × Nat} {h0 : ag_H} {a : Nat} (ha : fr_ok b (some a)) {h : ag_H} {res : (Int32) × ag_H} (hyp : fn_AL_init_0 N C a h = some res) (hF : fr_H b h0 h) : fr_H b h0 res.2 := by
  unfold fn_AL_init_0 at hyp
  obtain ⟨r2, er2, hyp⟩ := md_bd hyp
  have f2 := a_AbL_init er2 hF (ha) 
  obtain ⟨h5, eh5, hyp⟩ := md_bd hyp
  have hF5 : fr_H b h0 h5 := fr_pf f2 (ha) (fr_vr (r := (some (1))) (fr_one f2)) eh5
  cases hyp
  exact hF5
theorem a_AL_init {b N : Nat} {C : Nat × Nat} {h0 : ag_H} {a : Nat} {h : ag_H} {res : (Int32) × ag_H} (hyp : fn_AL_init N C a h = some res) (hF : fr_H b h0 h) (ha : fr_ok b (some a)) : fr_H b h0 res.2 := a_AL_init_0 ha hyp hF 
theorem a_Bk_init_0 {b N : Nat} {C : Nat × Nat} {h0 : ag_H} {a : Nat} (ha : fr_ok b (some a)) {h : ag_H} {res : (Int32) × ag_H} (hyp : fn_Bk_init_0 N C a h = some res) (hF : fr_H b h0 h) : fr_H b h0 res.2 := by
  unfold fn_Bk_init_0 at hyp
  obtain ⟨q4, hyp⟩ := md_ifs hyp
  have hF4 : fr_H b h0 (ag_nw h 3 (.inr (11, [.null, .int 0, .int 0]))) := fr_nw hF (fr_ob rfl)
  obtain ⟨r6, er6, hyp⟩ := md_bd hyp
  have f6 := a_AL_init er6 hF4 (fr_new hF) 
  obtain ⟨h7, eh7, hyp⟩ := md_bd hyp
  have hF7 : fr_H b h0 h7 := fr_pf f6 (ha) (fr_vr (r := (some (h.1))) (fr_new hF)) eh7
  cases hyp
  exact hF7
theorem a_Bk_init {b N : Nat} {C : Nat × Nat} {h0 : ag_H} {a : Nat} {h : ag_H} {res : (Int32) × ag_H} (hyp : fn_Bk_init N C a h = some res) (hF : fr_H b h0 h) (ha : fr_ok b (some a)) : fr_H b h0 res.2 := a_Bk_init_0 ha hyp hF 
theorem a_Jg_init_0 {b N : Nat} {C : Nat × Nat} {h0 : ag_H} {a : Nat} (ha : fr_ok b (some a)) {h : ag_H} {res : (Int32) × ag_H} (hyp : fn_Jg_init_0 N C a h = some res) (hF : fr_H b h0 h) : fr_H b h0 res.2 := by
  unfold fn_Jg_init_0 at hyp
  obtain ⟨q4, hyp⟩ := md_ifs hyp
  have hF4 : fr_H b h0 (ag_nw h 4 (.inr (4, [.null, .int 0, .int 0, .int 0]))) := fr_nw hF (fr_ob rfl)
  obtain ⟨r6, er6, hyp⟩ := md_bd hyp
  have f6 := a_Fa_init er6 hF4 (fr_new hF) 
  obtain ⟨h7, eh7, hyp⟩ := md_bd hyp
  have hF7 : fr_H b h0 h7 := fr_pf f6 (ha) (fr_vr (r := (some (h.1))) (fr_new hF)) eh7
  obtain ⟨q9, hyp⟩ := md_ifs hyp
  have hF9 : fr_H b h0 (ag_nw h7 1 (.inr (5, [.null]))) := fr_nw hF7 (fr_ob rfl)
  obtain ⟨r11, er11, hyp⟩ := md_bd hyp
  have f11 := a_Bk_init er11 hF9 (fr_new hF7) 
  obtain ⟨h12, eh12, hyp⟩ := md_bd hyp
  have hF12 : fr_H b h0 h12 := fr_pf f11 (ha) (fr_vr (r := (some (h7.1))) (fr_new hF7)) eh12
  obtain ⟨q15, hyp⟩ := md_ifs hyp
  have hF15 : fr_H b h0 (ag_nw h12 (Int32.ofInt 5).toNatClampNeg (.inl (5, (Int32.ofInt 5).toNatClampNeg, .inr (.inr (.inr (.inr (fun _ => none))))))) := fr_nw hF12 (fun _ => fr_none)
  obtain ⟨g19, eg19, hyp⟩ := md_bd hyp
  obtain ⟨h20, eh20, hyp⟩ := md_bd hyp
  have hF20 : fr_H b h0 h20 := fr_as hF15 (fr_new hF12) (fr_gr hF15 (ha) eg19) eh20
  obtain ⟨g24, eg24, hyp⟩ := md_bd hyp
  obtain ⟨h25, eh25, hyp⟩ := md_bd hyp
  have hF25 : fr_H b h0 h25 := fr_as hF20 (fr_new hF12) (fr_gr hF20 (ha) eg24) eh25
  obtain ⟨g29, eg29, hyp⟩ := md_bd hyp
  obtain ⟨h30, eh30, hyp⟩ := md_bd hyp
  have hF30 : fr_H b h0 h30 := fr_as hF25 (fr_new hF12) (fr_gr hF25 (ha) eg29) eh30
  obtain ⟨g34, eg34, hyp⟩ := md_bd hyp
  obtain ⟨h35, eh35, hyp⟩ := md_bd hyp
  have hF35 : fr_H b h0 h35 := fr_as hF30 (fr_new hF12) (fr_gr hF30 (ha) eg34) eh35
  obtain ⟨g39, eg39, hyp⟩ := md_bd hyp
  obtain ⟨h40, eh40, hyp⟩ := md_bd hyp
  have hF40 : fr_H b h0 h40 := fr_as hF35 (fr_new hF12) (fr_gr hF35 (ha) eg39) eh40
  obtain ⟨h41, eh41, hyp⟩ := md_bd hyp
  have hF41 : fr_H b h0 h41 := fr_pf hF40 (ha) (fr_vr (r := (some (h12.1))) (fr_new hF12)) eh41
  obtain ⟨q44, hyp⟩ := md_ifs hyp
  have hF44 : fr_H b h0 (ag_nw h41 ((Int8.ofInt (8)).toInt32).toNatClampNeg (.inl (0, ((Int8.ofInt (8)).toInt32).toNatClampNeg, .inl (fun _ => 0)))) := fr_nw hF41 trivial
  obtain ⟨h45, eh45, hyp⟩ := md_bd hyp
  have hF45 : fr_H b h0 h45 := fr_pf hF44 (ha) (fr_vr (r := (some (h41.1))) (fr_new hF41)) eh45
  obtain ⟨q48, hyp⟩ := md_ifs hyp
  have hF48 : fr_H b h0 (ag_nw h45 ((Int8.ofInt (40)).toInt32).toNatClampNeg (.inl (0, ((Int8.ofInt (40)).toInt32).toNatClampNeg, .inl (fun _ => 0)))) := fr_nw hF45 trivial
  obtain ⟨h49, eh49, hyp⟩ := md_bd hyp
  have hF49 : fr_H b h0 h49 := fr_pf hF48 (ha) (fr_vr (r := (some (h45.1))) (fr_new hF45)) eh49
  cases hyp
  exact hF49
theorem a_Jg_init {b N : Nat} {C : Nat × Nat} {h0 : ag_H} {a : Nat} {h : ag_H} {res : (Int32) × ag_H} (hyp : fn_Jg_init N C a h = some res) (hF : fr_H b h0 h) (ha : fr_ok b (some a)) : fr_H b h0 res.2 := a_Jg_init_0 ha hyp hF 
theorem a_GC_init_0 {b N : Nat} {C : Nat × Nat} {h0 : ag_H} {a : Nat} (ha : fr_ok b (some a)) {h : ag_H} {res : (Int32) × ag_H} (hyp : fn_GC_init_0 N C a h = some res) (hF : fr_H b h0 h) : fr_H b h0 res.2 := by
  unfold fn_GC_init_0 at hyp
  obtain ⟨q4, hyp⟩ := md_ifs hyp
  have hF4 : fr_H b h0 (ag_nw h 3 (.inr (1, [.null, .int 0, .int 0]))) := fr_nw hF (fr_ob rfl)
  obtain ⟨r6, er6, hyp⟩ := md_bd hyp
  have f6 := a_Ln_init er6 hF4 (fr_new hF) 
  obtain ⟨h7, eh7, hyp⟩ := md_bd hyp
  have hF7 : fr_H b h0 h7 := fr_pf f6 (ha) (fr_vr (r := (some (h.1))) (fr_new hF)) eh7
  obtain ⟨q9, hyp⟩ := md_ifs hyp
  have hF9 : fr_H b h0 (ag_nw h7 4 (.inr (2, [.null, .int 0, .int 0, .int 0]))) := fr_nw hF7 (fr_ob rfl)
  obtain ⟨r11, er11, hyp⟩ := md_bd hyp
  have f11 := a_Rd_init er11 hF9 (fr_new hF7) 
  obtain ⟨h12, eh12, hyp⟩ := md_bd hyp
  have hF12 : fr_H b h0 h12 := fr_pf f11 (ha) (fr_vr (r := (some (h7.1))) (fr_new hF7)) eh12
  obtain ⟨q14, hyp⟩ := md_ifs hyp
  have hF14 : fr_H b h0 (ag_nw h12 14 (.inr (3, [.null, .null, .null, .int 0, .int 0, .int 0, .null, .null, .int 0, .int 0, .int 0, .int 0, .int 0, .int 0]))) := fr_nw hF12 (fr_ob rfl)
  obtain ⟨r16, er16, hyp⟩ := md_bd hyp
  have f16 := a_Jg_init er16 hF14 (fr_new hF12) 
  obtain ⟨h17, eh17, hyp⟩ := md_bd hyp
  have hF17 : fr_H b h0 h17 := fr_pf f16 (ha) (fr_vr (r := (some (h12.1))) (fr_new hF12)) eh17
  obtain ⟨q19, hyp⟩ := md_ifs hyp
  have hF19 : fr_H b h0 (ag_nw h17 1 (.inr (5, [.null]))) := fr_nw hF17 (fr_ob rfl)
  obtain ⟨r21, er21, hyp⟩ := md_bd hyp
  have f21 := a_Bk_init er21 hF19 (fr_new hF17) 
  obtain ⟨h22, eh22, hyp⟩ := md_bd hyp
  have hF22 : fr_H b h0 h22 := fr_pf f21 (ha) (fr_vr (r := (some (h17.1))) (fr_new hF17)) eh22
  obtain ⟨q24, hyp⟩ := md_ifs hyp
  have hF24 : fr_H b h0 (ag_nw h22 3 (.inr (11, [.null, .int 0, .int 0]))) := fr_nw hF22 (fr_ob rfl)
  obtain ⟨r26, er26, hyp⟩ := md_bd hyp
  have f26 := a_AL_init er26 hF24 (fr_new hF22) 
  obtain ⟨h27, eh27, hyp⟩ := md_bd hyp
  have hF27 : fr_H b h0 h27 := fr_pf f26 (ha) (fr_vr (r := (some (h22.1))) (fr_new hF22)) eh27
  obtain ⟨q29, hyp⟩ := md_ifs hyp
  have hF29 : fr_H b h0 (ag_nw h27 3 (.inr (11, [.null, .int 0, .int 0]))) := fr_nw hF27 (fr_ob rfl)
  obtain ⟨r31, er31, hyp⟩ := md_bd hyp
  have f31 := a_AL_init er31 hF29 (fr_new hF27) 
  obtain ⟨h32, eh32, hyp⟩ := md_bd hyp
  have hF32 : fr_H b h0 h32 := fr_pf f31 (ha) (fr_vr (r := (some (h27.1))) (fr_new hF27)) eh32
  obtain ⟨q34, hyp⟩ := md_ifs hyp
  have hF34 : fr_H b h0 (ag_nw h32 1 (.inr (5, [.null]))) := fr_nw hF32 (fr_ob rfl)
  obtain ⟨r36, er36, hyp⟩ := md_bd hyp
  have f36 := a_Bk_init er36 hF34 (fr_new hF32) 
  obtain ⟨h37, eh37, hyp⟩ := md_bd hyp
  have hF37 : fr_H b h0 h37 := fr_pf f36 (ha) (fr_vr (r := (some (h32.1))) (fr_new hF32)) eh37
  obtain ⟨h40, eh40, hyp⟩ := md_bd hyp
  have hF40 : fr_H b h0 h40 := fr_pf hF37 (ha) fr_vi eh40
  obtain ⟨h43, eh43, hyp⟩ := md_bd hyp
  have hF43 : fr_H b h0 h43 := fr_pf hF40 (ha) fr_vi eh43
  obtain ⟨h46, eh46, hyp⟩ := md_bd hyp
  have hF46 : fr_H b h0 h46 := fr_pf hF43 (ha) fr_vi eh46
  cases hyp
  exact hF46
theorem a_GC_init {b N : Nat} {C : Nat × Nat} {h0 : ag_H} {a : Nat} {h : ag_H} {res : (Int32) × ag_H} (hyp : fn_GC_init N C a h = some res) (hF : fr_H b h0 h) (ha : fr_ok b (some a)) : fr_H b h0 res.2 := a_GC_init_0 ha hyp hF 
theorem a_Ln_put_21 {b N : Nat} {C : Nat × Nat} {h0 : ag_H} {a : Nat} (ha : fr_ok b (some a)) {h : ag_H} {res : (Int32) × ag_H} (hyp : fn_Ln_put_21 N C a h = some res) (hF : fr_H b h0 h) : fr_H b h0 res.2 := by
  unfold fn_Ln_put_21 at hyp
  obtain ⟨q2, hyp⟩ := md_ifs hyp
  cases hyp
  exact hF
theorem a_Ln_put_0 {b N : Nat} {C : Nat × Nat} {h0 : ag_H} {a : Nat} (ha : fr_ok b (some a)) {x1 : Int32} {h : ag_H} {res : (Int32) × ag_H} (hyp : fn_Ln_put_0 N C a x1 h = some res) (hF : fr_H b h0 h) : fr_H b h0 res.2 := by
  unfold fn_Ln_put_0 at hyp
  rcases fr_if hyp with ⟨q, hyp⟩ | ⟨q, hyp⟩
  · exact a_Ln_put_21 ha hyp hF
  · rcases fr_if hyp with ⟨q, hyp⟩ | ⟨q, hyp⟩
    · exact a_Ln_put_21 ha hyp hF
    · obtain ⟨g8, eg8, hyp⟩ := md_bd hyp
      rcases fr_if hyp with ⟨q, hyp⟩ | ⟨q, hyp⟩
      · obtain ⟨g12, eg12, hyp⟩ := md_bd hyp
        obtain ⟨g14, eg14, hyp⟩ := md_bd hyp
        obtain ⟨p16, ep16, hyp⟩ := md_bd hyp
        obtain ⟨q16, hyp⟩ := md_ifs hyp
        have hF16 : fr_H b h0 (ag_up h ((g12).getD 0) (.inl (1, p16.1, .inl (upd p16.2 (g14).toNatClampNeg (vp_nar .char (x1)))))) := fr_ia hF (fr_gr hF (ha) eg12) ep16
        obtain ⟨g19, eg19, hyp⟩ := md_bd hyp
        obtain ⟨h22, eh22, hyp⟩ := md_bd hyp
        have hF22 : fr_H b h0 h22 := fr_pf hF16 (ha) fr_vi eh22
        obtain ⟨q24, hyp⟩ := md_ifs hyp
        cases hyp
        exact hF22
      · exact a_Ln_put_21 ha hyp hF
theorem a_Ln_put {b N : Nat} {C : Nat × Nat} {h0 : ag_H} {a : Nat} {p1 : Int32} {h : ag_H} {res : (Int32) × ag_H} (hyp : fn_Ln_put N C a p1 h = some res) (hF : fr_H b h0 h) (ha : fr_ok b (some a)) : fr_H b h0 res.2 := a_Ln_put_0 ha hyp hF 
theorem a_GC_type_0 {b N : Nat} {C : Nat × Nat} {h0 : ag_H} {a : Nat} (ha : fr_ok b (some a)) {x1 : Int32} {h : ag_H} {res : (Int32) × ag_H} (hyp : fn_GC_type_0 N C a x1 h = some res) (hF : fr_H b h0 h) : fr_H b h0 res.2 := by
  unfold fn_GC_type_0 at hyp
  obtain ⟨g2, eg2, hyp⟩ := md_bd hyp
  obtain ⟨a4, ea4, hyp⟩ := md_bd hyp
  obtain ⟨r4, er4, hyp⟩ := md_bd hyp
  have f4 := a_Ln_put er4 hF (fr_rc (fr_gr hF (ha) eg2) ea4) 
  obtain ⟨q5, hyp⟩ := md_ifs hyp
  cases hyp
  exact f4
theorem a_GC_type {b N : Nat} {C : Nat × Nat} {h0 : ag_H} {a : Nat} {p1 : Int32} {h : ag_H} {res : (Int32) × ag_H} (hyp : fn_GC_type N C a p1 h = some res) (hF : fr_H b h0 h) (ha : fr_ok b (some a)) : fr_H b h0 res.2 := a_GC_type_0 ha hyp hF 
theorem a_GC_wipe_0 {b N : Nat} {C : Nat × Nat} {h0 : ag_H} {a : Nat} (ha : fr_ok b (some a)) {h : ag_H} {res : (Int32) × ag_H} (hyp : fn_GC_wipe_0 N C a h = some res) (hF : fr_H b h0 h) : fr_H b h0 res.2 := by
  unfold fn_GC_wipe_0 at hyp
  obtain ⟨g2, eg2, hyp⟩ := md_bd hyp
  obtain ⟨h4, eh4, hyp⟩ := md_bd hyp
  have hF4 : fr_H b h0 h4 := fr_pf hF (fr_gr hF (ha) eg2) fr_vi eh4
  cases hyp
  exact hF4
theorem a_GC_wipe {b N : Nat} {C : Nat × Nat} {h0 : ag_H} {a : Nat} {h : ag_H} {res : (Int32) × ag_H} (hyp : fn_GC_wipe N C a h = some res) (hF : fr_H b h0 h) (ha : fr_ok b (some a)) : fr_H b h0 res.2 := a_GC_wipe_0 ha hyp hF 
theorem a_AL_clear_27 {b N : Nat} {C : Nat × Nat} {h0 : ag_H} {a : Nat} (ha : fr_ok b (some a)) : ∀ (n : Nat) (res : (Int32) × ag_H) (x1 : Option Nat) (x2 : Int32) (x3 : Int32) (h : ag_H) , fn_AL_clear_27 N C a n x1 x2 x3 h = some res → fr_H b h0 h → fr_ok b x1 → fr_H b h0 res.2 := by
  intro n
  induction n with
  | zero =>
    intro res x1 x2 x3 h hyp
    cases hyp
  | succ n ih =>
    intro res x1 x2 x3 h hyp hF hx1
    rw [fe_AL_clear_27] at hyp
    rcases fr_if hyp with ⟨q, hyp⟩ | ⟨q, hyp⟩
    · cases hyp
      exact hF
    · obtain ⟨h8, eh8, hyp⟩ := md_bd hyp
      have hF8 : fr_H b h0 h8 := fr_as hF (hx1) (fr_none) eh8
      exact ih _ _ _ _ _ hyp hF8 (hx1)
theorem a_AL_clear_0 {b N : Nat} {C : Nat × Nat} {h0 : ag_H} {a : Nat} (ha : fr_ok b (some a)) {h : ag_H} {res : (Int32) × ag_H} (hyp : fn_AL_clear_0 N C a h = some res) (hF : fr_H b h0 h) : fr_H b h0 res.2 := by
  unfold fn_AL_clear_0 at hyp
  obtain ⟨g3, eg3, hyp⟩ := md_bd hyp
  obtain ⟨h6, eh6, hyp⟩ := md_bd hyp
  have hF6 : fr_H b h0 h6 := fr_pf hF (ha) fr_vi eh6
  obtain ⟨g8, eg8, hyp⟩ := md_bd hyp
  obtain ⟨g11, eg11, hyp⟩ := md_bd hyp
  obtain ⟨h16, eh16, hyp⟩ := md_bd hyp
  have hF16 : fr_H b h0 h16 := fr_pf hF6 (ha) fr_vi eh16
  exact a_AL_clear_27 ha N _ _ _ _ _ hyp hF16 (fr_gr hF6 (ha) eg8)
theorem a_AL_clear {b N : Nat} {C : Nat × Nat} {h0 : ag_H} {a : Nat} {h : ag_H} {res : (Int32) × ag_H} (hyp : fn_AL_clear N C a h = some res) (hF : fr_H b h0 h) (ha : fr_ok b (some a)) : fr_H b h0 res.2 := a_AL_clear_0 ha hyp hF 
theorem a_GC_clear_0 {b N : Nat} {C : Nat × Nat} {h0 : ag_H} {a : Nat} (ha : fr_ok b (some a)) {h : ag_H} {res : (Int32) × ag_H} (hyp : fn_GC_clear_0 N C a h = some res) (hF : fr_H b h0 h) : fr_H b h0 res.2 := by
  unfold fn_GC_clear_0 at hyp
  obtain ⟨g2, eg2, hyp⟩ := md_bd hyp
  obtain ⟨g3, eg3, hyp⟩ := md_bd hyp
  obtain ⟨a4, ea4, hyp⟩ := md_bd hyp
  obtain ⟨r4, er4, hyp⟩ := md_bd hyp
  have f4 := a_AL_clear er4 hF (fr_rc (fr_gr hF (fr_gr hF (ha) eg2) eg3) ea4) 
  cases hyp
  exact f4
theorem a_GC_clear {b N : Nat} {C : Nat × Nat} {h0 : ag_H} {a : Nat} {h : ag_H} {res : (Int32) × ag_H} (hyp : fn_GC_clear N C a h = some res) (hF : fr_H b h0 h) (ha : fr_ok b (some a)) : fr_H b h0 res.2 := a_GC_clear_0 ha hyp hF 
theorem a_GC_limits_22 {b N : Nat} {C : Nat × Nat} {h0 : ag_H} {a : Nat} (ha : fr_ok b (some a)) {h : ag_H} {res : (Int32) × ag_H} (hyp : fn_GC_limits_22 N C a h = some res) (hF : fr_H b h0 h) : fr_H b h0 res.2 := by
  unfold fn_GC_limits_22 at hyp
  obtain ⟨q2, hyp⟩ := md_ifs hyp
  cases hyp
  exact hF
theorem a_GC_limits_0 {b N : Nat} {C : Nat × Nat} {h0 : ag_H} {a : Nat} (ha : fr_ok b (some a)) {x1 : Int32} {x2 : Int32} {h : ag_H} {res : (Int32) × ag_H} (hyp : fn_GC_limits_0 N C a x1 x2 h = some res) (hF : fr_H b h0 h) : fr_H b h0 res.2 := by
  unfold fn_GC_limits_0 at hyp
  rcases fr_if hyp with ⟨q, hyp⟩ | ⟨q, hyp⟩
  · exact a_GC_limits_22 ha hyp hF
  · rcases fr_if hyp with ⟨q, hyp⟩ | ⟨q, hyp⟩
    · exact a_GC_limits_22 ha hyp hF
    · rcases fr_if hyp with ⟨q, hyp⟩ | ⟨q, hyp⟩
      · exact a_GC_limits_22 ha hyp hF
      · rcases fr_if hyp with ⟨q, hyp⟩ | ⟨q, hyp⟩
        · obtain ⟨h15, eh15, hyp⟩ := md_bd hyp
          have hF15 : fr_H b h0 h15 := fr_pf hF (ha) fr_vi eh15
          obtain ⟨h18, eh18, hyp⟩ := md_bd hyp
          have hF18 : fr_H b h0 h18 := fr_pf hF15 (ha) fr_vi eh18
          obtain ⟨q20, hyp⟩ := md_ifs hyp
          cases hyp
          exact hF18
        · exact a_GC_limits_22 ha hyp hF
theorem a_GC_limits {b N : Nat} {C : Nat × Nat} {h0 : ag_H} {a : Nat} {p1 : Int32} {p2 : Int32} {h : ag_H} {res : (Int32) × ag_H} (hyp : fn_GC_limits N C a p1 p2 h = some res) (hF : fr_H b h0 h) (ha : fr_ok b (some a)) : fr_H b h0 res.2 := a_GC_limits_0 ha hyp hF 
theorem a_GC_latest_0 {b N : Nat} {C : Nat × Nat} {h0 : ag_H} {a : Nat} (ha : fr_ok b (some a)) {x1 : Int32} {h : ag_H} {res : (Int32) × ag_H} (hyp : fn_GC_latest_0 N C a x1 h = some res) (hF : fr_H b h0 h) : fr_H b h0 res.2 := by
  unfold fn_GC_latest_0 at hyp
  rcases fr_if hyp with ⟨q, hyp⟩ | ⟨q, hyp⟩
  · obtain ⟨g19, eg19, hyp⟩ := md_bd hyp
    obtain ⟨g20, eg20, hyp⟩ := md_bd hyp
    cases hyp
    exact hF
  · rcases fr_if hyp with ⟨q, hyp⟩ | ⟨q, hyp⟩
    · obtain ⟨g14, eg14, hyp⟩ := md_bd hyp
      obtain ⟨g15, eg15, hyp⟩ := md_bd hyp
      obtain ⟨g16, eg16, hyp⟩ := md_bd hyp
      cases hyp
      exact hF
    · rcases fr_if hyp with ⟨q, hyp⟩ | ⟨q, hyp⟩
      · obtain ⟨g10, eg10, hyp⟩ := md_bd hyp
        obtain ⟨g11, eg11, hyp⟩ := md_bd hyp
        cases hyp
        exact hF
      · rcases fr_if hyp with ⟨q, hyp⟩ | ⟨q, hyp⟩
        · obtain ⟨g6, eg6, hyp⟩ := md_bd hyp
          obtain ⟨g7, eg7, hyp⟩ := md_bd hyp
          cases hyp
          exact hF
        · cases hyp
          exact hF
theorem a_GC_latest {b N : Nat} {C : Nat × Nat} {h0 : ag_H} {a : Nat} {p1 : Int32} {h : ag_H} {res : (Int32) × ag_H} (hyp : fn_GC_latest N C a p1 h = some res) (hF : fr_H b h0 h) (ha : fr_ok b (some a)) : fr_H b h0 res.2 := a_GC_latest_0 ha hyp hF 
theorem a_AL_size_0 {b N : Nat} {C : Nat × Nat} {h0 : ag_H} {a : Nat} (ha : fr_ok b (some a)) {h : ag_H} {res : (Int32) × ag_H} (hyp : fn_AL_size_0 N C a h = some res) (hF : fr_H b h0 h) : fr_H b h0 res.2 := by
  unfold fn_AL_size_0 at hyp
  obtain ⟨g2, eg2, hyp⟩ := md_bd hyp
  cases hyp
  exact hF
theorem a_AL_size {b N : Nat} {C : Nat × Nat} {h0 : ag_H} {a : Nat} {h : ag_H} {res : (Int32) × ag_H} (hyp : fn_AL_size N C a h = some res) (hF : fr_H b h0 h) (ha : fr_ok b (some a)) : fr_H b h0 res.2 := a_AL_size_0 ha hyp hF 
theorem a_GC_count_0 {b N : Nat} {C : Nat × Nat} {h0 : ag_H} {a : Nat} (ha : fr_ok b (some a)) {x1 : Int32} {h : ag_H} {res : (Int32) × ag_H} (hyp : fn_GC_count_0 N C a x1 h = some res) (hF : fr_H b h0 h) : fr_H b h0 res.2 := by
  unfold fn_GC_count_0 at hyp
  rcases fr_if hyp with ⟨q, hyp⟩ | ⟨q, hyp⟩
  · obtain ⟨g27, eg27, hyp⟩ := md_bd hyp
    obtain ⟨a28, ea28, hyp⟩ := md_bd hyp
    obtain ⟨r28, er28, hyp⟩ := md_bd hyp
    have f28 := a_AL_size er28 hF (fr_rc (fr_gr hF (ha) eg27) ea28) 
    cases hyp
    exact f28
  · rcases fr_if hyp with ⟨q, hyp⟩ | ⟨q, hyp⟩
    · obtain ⟨g23, eg23, hyp⟩ := md_bd hyp
      obtain ⟨a24, ea24, hyp⟩ := md_bd hyp
      obtain ⟨r24, er24, hyp⟩ := md_bd hyp
      have f24 := a_AL_size er24 hF (fr_rc (fr_gr hF (ha) eg23) ea24) 
      cases hyp
      exact f24
    · rcases fr_if hyp with ⟨q, hyp⟩ | ⟨q, hyp⟩
      · obtain ⟨g20, eg20, hyp⟩ := md_bd hyp
        cases hyp
        exact hF
      · rcases fr_if hyp with ⟨q, hyp⟩ | ⟨q, hyp⟩
        · obtain ⟨g15, eg15, hyp⟩ := md_bd hyp
          obtain ⟨g16, eg16, hyp⟩ := md_bd hyp
          obtain ⟨a17, ea17, hyp⟩ := md_bd hyp
          obtain ⟨r17, er17, hyp⟩ := md_bd hyp
          have f17 := a_AL_size er17 hF (fr_rc (fr_gr hF (fr_gr hF (ha) eg15) eg16) ea17) 
          cases hyp
          exact f17
        · rcases fr_if hyp with ⟨q, hyp⟩ | ⟨q, hyp⟩
          · obtain ⟨g10, eg10, hyp⟩ := md_bd hyp
            obtain ⟨g11, eg11, hyp⟩ := md_bd hyp
            obtain ⟨a12, ea12, hyp⟩ := md_bd hyp
            obtain ⟨r12, er12, hyp⟩ := md_bd hyp
            have f12 := a_AL_size er12 hF (fr_rc (fr_gr hF (fr_gr hF (ha) eg10) eg11) ea12) 
            cases hyp
            exact f12
          · rcases fr_if hyp with ⟨q, hyp⟩ | ⟨q, hyp⟩
            · obtain ⟨g6, eg6, hyp⟩ := md_bd hyp
              obtain ⟨g7, eg7, hyp⟩ := md_bd hyp
              cases hyp
              exact hF
            · cases hyp
              exact hF
theorem a_GC_count {b N : Nat} {C : Nat × Nat} {h0 : ag_H} {a : Nat} {p1 : Int32} {h : ag_H} {res : (Int32) × ag_H} (hyp : fn_GC_count N C a p1 h = some res) (hF : fr_H b h0 h) (ha : fr_ok b (some a)) : fr_H b h0 res.2 := a_GC_count_0 ha hyp hF 
theorem a_Ln_sign_5 {b N : Nat} {C : Nat × Nat} {h0 : ag_H} {a : Nat} (ha : fr_ok b (some a)) : ∀ (n : Nat) (res : (Int32) × ag_H) (x1 : Int32) (h : ag_H) , fn_Ln_sign_5 N C a n x1 h = some res → fr_H b h0 h → fr_H b h0 res.2 := by
  intro n
  induction n with
  | zero =>
    intro res x1 h hyp
    cases hyp
  | succ n ih =>
    intro res x1 h hyp hF 
    rw [fe_Ln_sign_5] at hyp
    obtain ⟨g3, eg3, hyp⟩ := md_bd hyp
    rcases fr_if hyp with ⟨q, hyp⟩ | ⟨q, hyp⟩
    · obtain ⟨g7, eg7, hyp⟩ := md_bd hyp
      obtain ⟨h8, eh8, hyp⟩ := md_bd hyp
      have hF8 : fr_H b h0 h8 := fr_pf hF (ha) fr_vi eh8
      obtain ⟨q10, hyp⟩ := md_ifs hyp
      cases hyp
      exact hF8
    · obtain ⟨g12, eg12, hyp⟩ := md_bd hyp
      obtain ⟨p14, ep14, hyp⟩ := md_bd hyp
      obtain ⟨q14, hyp⟩ := md_ifs hyp
      rcases fr_if hyp with ⟨q, hyp⟩ | ⟨q, hyp⟩
      · exact ih _ _ _ hyp hF
      · obtain ⟨h21, eh21, hyp⟩ := md_bd hyp
        have hF21 : fr_H b h0 h21 := fr_pf hF (ha) fr_vi eh21
        obtain ⟨g23, eg23, hyp⟩ := md_bd hyp
        obtain ⟨p25, ep25, hyp⟩ := md_bd hyp
        obtain ⟨q25, hyp⟩ := md_ifs hyp
        obtain ⟨q26, hyp⟩ := md_ifs hyp
        cases hyp
        exact hF21
theorem a_Ln_sign_0 {b N : Nat} {C : Nat × Nat} {h0 : ag_H} {a : Nat} (ha : fr_ok b (some a)) {h : ag_H} {res : (Int32) × ag_H} (hyp : fn_Ln_sign_0 N C a h = some res) (hF : fr_H b h0 h) : fr_H b h0 res.2 := by
  unfold fn_Ln_sign_0 at hyp
  obtain ⟨g2, eg2, hyp⟩ := md_bd hyp
  exact a_Ln_sign_5 ha N _ _ _ hyp hF 
theorem a_Ln_sign {b N : Nat} {C : Nat × Nat} {h0 : ag_H} {a : Nat} {h : ag_H} {res : (Int32) × ag_H} (hyp : fn_Ln_sign N C a h = some res) (hF : fr_H b h0 h) (ha : fr_ok b (some a)) : fr_H b h0 res.2 := a_Ln_sign_0 ha hyp hF 
theorem a_Ln_takes_0 {b N : Nat} {C : Nat × Nat} {h0 : ag_H} {a : Nat} (ha : fr_ok b (some a)) {x1 : Int32} {h : ag_H} {res : (Int32) × ag_H} (hyp : fn_Ln_takes_0 N C a x1 h = some res) (hF : fr_H b h0 h) : fr_H b h0 res.2 := by
  unfold fn_Ln_takes_0 at hyp
  obtain ⟨a2, ea2, hyp⟩ := md_bd hyp
  obtain ⟨r2, er2, hyp⟩ := md_bd hyp
  have f2 := a_Ln_sign er2 hF (fr_rc (ha) ea2) 
  rcases fr_if hyp with ⟨q, hyp⟩ | ⟨q, hyp⟩
  · obtain ⟨g7, eg7, hyp⟩ := md_bd hyp
    obtain ⟨h10, eh10, hyp⟩ := md_bd hyp
    have hF10 : fr_H b h0 h10 := fr_pf f2 (ha) fr_vi eh10
    obtain ⟨q12, hyp⟩ := md_ifs hyp
    cases hyp
    exact hF10
  · obtain ⟨q14, hyp⟩ := md_ifs hyp
    cases hyp
    exact f2
theorem a_Ln_takes {b N : Nat} {C : Nat × Nat} {h0 : ag_H} {a : Nat} {p1 : Int32} {h : ag_H} {res : (Int32) × ag_H} (hyp : fn_Ln_takes N C a p1 h = some res) (hF : fr_H b h0 h) (ha : fr_ok b (some a)) : fr_H b h0 res.2 := a_Ln_takes_0 ha hyp hF 
theorem a_Rd_readKind_47 {b N : Nat} {C : Nat × Nat} {h0 : ag_H} {s0 : Int32} {h : ag_H} {res : (Int32) × ag_H} (hyp : fn_Rd_readKind_47 N C s0 h = some res) (hF : fr_H b h0 h) : fr_H b h0 res.2 := by
  unfold fn_Rd_readKind_47 at hyp
  cases hyp
  exact hF
theorem a_Rd_readKind_0 {b N : Nat} {C : Nat × Nat} {h0 : ag_H} {x0 : Option Nat} {h : ag_H} {res : (Int32) × ag_H} (hyp : fn_Rd_readKind_0 N C x0 h = some res) (hF : fr_H b h0 h) (hx0 : fr_ok b x0) : fr_H b h0 res.2 := by
  unfold fn_Rd_readKind_0 at hyp
  obtain ⟨a3, ea3, hyp⟩ := md_bd hyp
  obtain ⟨r3, er3, hyp⟩ := md_bd hyp
  have f3 := a_Ln_takes er3 hF (fr_rc (hx0) ea3) 
  rcases fr_if hyp with ⟨q, hyp⟩ | ⟨q, hyp⟩
  · obtain ⟨a7, ea7, hyp⟩ := md_bd hyp
    obtain ⟨r7, er7, hyp⟩ := md_bd hyp
    have f7 := a_Ln_takes er7 f3 (fr_rc (hx0) ea7) 
    rcases fr_if hyp with ⟨q, hyp⟩ | ⟨q, hyp⟩
    · obtain ⟨a11, ea11, hyp⟩ := md_bd hyp
      obtain ⟨r11, er11, hyp⟩ := md_bd hyp
      have f11 := a_Ln_takes er11 f7 (fr_rc (hx0) ea11) 
      rcases fr_if hyp with ⟨q, hyp⟩ | ⟨q, hyp⟩
      · obtain ⟨a15, ea15, hyp⟩ := md_bd hyp
        obtain ⟨r15, er15, hyp⟩ := md_bd hyp
        have f15 := a_Ln_takes er15 f11 (fr_rc (hx0) ea15) 
        rcases fr_if hyp with ⟨q, hyp⟩ | ⟨q, hyp⟩
        · exact a_Rd_readKind_47 hyp f15
        · exact a_Rd_readKind_47 hyp f15
      · cases hyp
        exact f11
    · cases hyp
      exact f7
  · cases hyp
    exact f3
theorem a_Rd_readKind {b N : Nat} {C : Nat × Nat} {h0 : ag_H} {p0 : Option Nat} {h : ag_H} {res : (Int32) × ag_H} (hyp : fn_Rd_readKind N C p0 h = some res) (hF : fr_H b h0 h) (hp0 : fr_ok b p0) : fr_H b h0 res.2 := a_Rd_readKind_0 hyp hF hp0
theorem a_Rd_isName_17 {b N : Nat} {C : Nat × Nat} {h0 : ag_H} {s0 : Int32} {h : ag_H} {res : (Int32) × ag_H} (hyp : fn_Rd_isName_17 N C s0 h = some res) (hF : fr_H b h0 h) : fr_H b h0 res.2 := by
  unfold fn_Rd_isName_17 at hyp
  obtain ⟨q1, hyp⟩ := md_ifs hyp
  cases hyp
  exact hF
theorem a_Rd_isName_16 {b N : Nat} {C : Nat × Nat} {h0 : ag_H} {h : ag_H} {res : (Int32) × ag_H} (hyp : fn_Rd_isName_16 N C h = some res) (hF : fr_H b h0 h) : fr_H b h0 res.2 := by
  unfold fn_Rd_isName_16 at hyp
  exact a_Rd_isName_17 hyp hF 
theorem a_Rd_isName_0 {b N : Nat} {C : Nat × Nat} {h0 : ag_H} {x0 : Int32} {h : ag_H} {res : (Int32) × ag_H} (hyp : fn_Rd_isName_0 N C x0 h = some res) (hF : fr_H b h0 h) : fr_H b h0 res.2 := by
  unfold fn_Rd_isName_0 at hyp
  rcases fr_if hyp with ⟨q, hyp⟩ | ⟨q, hyp⟩
  · exact a_Rd_isName_16 hyp hF
  · rcases fr_if hyp with ⟨q, hyp⟩ | ⟨q, hyp⟩
    · exact a_Rd_isName_16 hyp hF
    · exact a_Rd_isName_17 hyp hF
theorem a_Rd_isName {b N : Nat} {C : Nat × Nat} {h0 : ag_H} {p0 : Int32} {h : ag_H} {res : (Int32) × ag_H} (hyp : fn_Rd_isName N C p0 h = some res) (hF : fr_H b h0 h) : fr_H b h0 res.2 := a_Rd_isName_0 hyp hF 
theorem a_At_init_0 {b N : Nat} {C : Nat × Nat} {h0 : ag_H} {a : Nat} (ha : fr_ok b (some a)) {x1 : Int32} {x2 : Int32} {x3 : Int32} {x4 : Int32} {h : ag_H} {res : (Int32) × ag_H} (hyp : fn_At_init_0 N C a x1 x2 x3 x4 h = some res) (hF : fr_H b h0 h) : fr_H b h0 res.2 := by
  unfold fn_At_init_0 at hyp
  obtain ⟨h5, eh5, hyp⟩ := md_bd hyp
  have hF5 : fr_H b h0 h5 := fr_pf hF (ha) fr_vi eh5
  obtain ⟨h8, eh8, hyp⟩ := md_bd hyp
  have hF8 : fr_H b h0 h8 := fr_pf hF5 (ha) fr_vi eh8
  obtain ⟨h11, eh11, hyp⟩ := md_bd hyp
  have hF11 : fr_H b h0 h11 := fr_pf hF8 (ha) fr_vi eh11
  obtain ⟨h14, eh14, hyp⟩ := md_bd hyp
  have hF14 : fr_H b h0 h14 := fr_pf hF11 (ha) fr_vi eh14
  cases hyp
  exact hF14
theorem a_At_init {b N : Nat} {C : Nat × Nat} {h0 : ag_H} {a : Nat} {p1 : Int32} {p2 : Int32} {p3 : Int32} {p4 : Int32} {h : ag_H} {res : (Int32) × ag_H} (hyp : fn_At_init N C a p1 p2 p3 p4 h = some res) (hF : fr_H b h0 h) (ha : fr_ok b (some a)) : fr_H b h0 res.2 := a_At_init_0 ha hyp hF 
theorem a_Rd_isVariable_17 {b N : Nat} {C : Nat × Nat} {h0 : ag_H} {s0 : Int32} {h : ag_H} {res : (Int32) × ag_H} (hyp : fn_Rd_isVariable_17 N C s0 h = some res) (hF : fr_H b h0 h) : fr_H b h0 res.2 := by
  unfold fn_Rd_isVariable_17 at hyp
  obtain ⟨q1, hyp⟩ := md_ifs hyp
  cases hyp
  exact hF
theorem a_Rd_isVariable_16 {b N : Nat} {C : Nat × Nat} {h0 : ag_H} {h : ag_H} {res : (Int32) × ag_H} (hyp : fn_Rd_isVariable_16 N C h = some res) (hF : fr_H b h0 h) : fr_H b h0 res.2 := by
  unfold fn_Rd_isVariable_16 at hyp
  exact a_Rd_isVariable_17 hyp hF 
theorem a_Rd_isVariable_0 {b N : Nat} {C : Nat × Nat} {h0 : ag_H} {x0 : Int32} {h : ag_H} {res : (Int32) × ag_H} (hyp : fn_Rd_isVariable_0 N C x0 h = some res) (hF : fr_H b h0 h) : fr_H b h0 res.2 := by
  unfold fn_Rd_isVariable_0 at hyp
  rcases fr_if hyp with ⟨q, hyp⟩ | ⟨q, hyp⟩
  · exact a_Rd_isVariable_16 hyp hF
  · rcases fr_if hyp with ⟨q, hyp⟩ | ⟨q, hyp⟩
    · exact a_Rd_isVariable_16 hyp hF
    · exact a_Rd_isVariable_17 hyp hF
theorem a_Rd_isVariable {b N : Nat} {C : Nat × Nat} {h0 : ag_H} {p0 : Int32} {h : ag_H} {res : (Int32) × ag_H} (hyp : fn_Rd_isVariable N C p0 h = some res) (hF : fr_H b h0 h) : fr_H b h0 res.2 := a_Rd_isVariable_0 hyp hF 
