/-! Ln_init, Rd_init, Fa_init, AbC_init, AbL_init, AL_init, Bk_init, Jg_init, GC_init, Ln_put, GC_type, GC_wipe, AL_clear, GC_clear, GC_limits, GC_latest, AL_size, GC_count, Ln_sign, Ln_takes, Rd_readKind, Rd_isName, At_init, Rd_isVariable -/
def fn_Ln_init_0 (N : Nat) (C : Nat × Nat) (a : Nat) (h : ag_H) : Option ((Int32) × ag_H) := if ¬ ((Int8.ofInt (40)).toInt32) < 0 ∧ ((Int8.ofInt (40)).toInt32).toNatClampNeg * 2 ≤ 536870912 ∧ h.1 + 1 ≤ C.1 ∧ h.2.1 + ((Int8.ofInt (40)).toInt32).toNatClampNeg ≤ C.2 then ((ag_pf (ag_nw h ((Int8.ofInt (40)).toInt32).toNatClampNeg (.inl (1, ((Int8.ofInt (40)).toInt32).toNatClampNeg, .inl (fun _ => 0)))) (ag_rf (some (a))) 1 0 (.array .char) (.ref (h.1))).bind fun h6 => some (0, h6)) else none
def fn_Ln_init (N : Nat) (C : Nat × Nat) (a : Nat) (h : ag_H) : Option ((Int32) × ag_H) := fn_Ln_init_0 N C a h
theorem w_Ln_init_0 {l : Launch} {G : ag_G} {d N : Nat} {C : Nat × Nat} {a : Nat} (hC : ag_cN G = C.1 ∧ ag_cS G = C.2) {h : ag_H} {res : (Int32) × ag_H} (hyp : fn_Ln_init_0 N C a h = some res) : ag_ev gc_P l G m_Ln_init (d) (ag_ret gc_P G (fun v h' => v = none ∧ h' = res.2)) 0 [(0, .ref a)] [] h := by
  unfold fn_Ln_init_0 at hyp
  have hc : ag_C1 [(0, .ref a)] := (ag_c1 rfl ag_c0)
  refine gc_aload_n (r := (some (a))) d_Ln_init_0 rfl ?_
  refine ag_obji (a := a) d_Ln_init_1 gw_41 gw_34 gw_35 (Nat.le_of_ble_eq_true rfl) ?_
  refine gc_aload_n (r := (some (a))) d_Ln_init_4 rfl ?_
  refine ag_bipush d_Ln_init_5 ?_
  obtain ⟨q5, hyp⟩ := md_ifs hyp
  refine gc_newi (ty := .char) (t := 1) (b := 2) hC d_Ln_init_7 gw_54 rfl rfl (fun D q => by cases q) rfl rfl q5 ?_
  obtain ⟨h6, eh6, hyp⟩ := md_bd hyp
  refine gc_putf (r := (some (a))) d_Ln_init_9 fl_Ln_9 (fun _ => rfl) eh6 ?_
  cases hyp
  exact ag_vret d_Ln_init_12 rfl ⟨rfl, rfl⟩
theorem w_Ln_init {l : Launch} {G : ag_G} {d N : Nat} {C : Nat × Nat} (hC : ag_cN G = C.1 ∧ ag_cS G = C.2) (hH : 0 ≤ d) {a : Nat} {h : ag_H} {res : (Int32) × ag_H} (hyp : fn_Ln_init N C a h = some res) : ag_Met gc_P l G m_Ln_init d [.ref a] h (fun v h' => v = none ∧ h' = res.2) := by
  exact ag_met (by decide) rfl (Nat.le_of_ble_eq_true rfl) (ag_dr (ag_d1 rfl ag_d0) (w_Ln_init_0 hC hyp))
def fn_Rd_init_0 (N : Nat) (C : Nat × Nat) (a : Nat) (h : ag_H) : Option ((Int32) × ag_H) := if ¬ ((Int8.ofInt (40)).toInt32) < 0 ∧ ((Int8.ofInt (40)).toInt32).toNatClampNeg * 4 ≤ 536870912 ∧ h.1 + 1 ≤ C.1 ∧ h.2.1 + ((Int8.ofInt (40)).toInt32).toNatClampNeg ≤ C.2 then ((ag_pf (ag_nw h ((Int8.ofInt (40)).toInt32).toNatClampNeg (.inl (0, ((Int8.ofInt (40)).toInt32).toNatClampNeg, .inl (fun _ => 0)))) (ag_rf (some (a))) 2 0 (.array .int) (.ref (h.1))).bind fun h6 => some (0, h6)) else none
def fn_Rd_init (N : Nat) (C : Nat × Nat) (a : Nat) (h : ag_H) : Option ((Int32) × ag_H) := fn_Rd_init_0 N C a h
theorem w_Rd_init_0 {l : Launch} {G : ag_G} {d N : Nat} {C : Nat × Nat} {a : Nat} (hC : ag_cN G = C.1 ∧ ag_cS G = C.2) {h : ag_H} {res : (Int32) × ag_H} (hyp : fn_Rd_init_0 N C a h = some res) : ag_ev gc_P l G m_Rd_init (d) (ag_ret gc_P G (fun v h' => v = none ∧ h' = res.2)) 0 [(0, .ref a)] [] h := by
  unfold fn_Rd_init_0 at hyp
  have hc : ag_C1 [(0, .ref a)] := (ag_c1 rfl ag_c0)
  refine gc_aload_n (r := (some (a))) d_Rd_init_0 rfl ?_
  refine ag_obji (a := a) d_Rd_init_1 gw_60 gw_34 gw_35 (Nat.le_of_ble_eq_true rfl) ?_
  refine gc_aload_n (r := (some (a))) d_Rd_init_4 rfl ?_
  refine ag_bipush d_Rd_init_5 ?_
  obtain ⟨q5, hyp⟩ := md_ifs hyp
  refine gc_newi (ty := .int) (t := 0) (b := 4) hC d_Rd_init_7 gw_74 rfl rfl (fun D q => by cases q) rfl rfl q5 ?_
  obtain ⟨h6, eh6, hyp⟩ := md_bd hyp
  refine gc_putf (r := (some (a))) d_Rd_init_9 fl_Rd_9 (fun _ => rfl) eh6 ?_
  cases hyp
  exact ag_vret d_Rd_init_12 rfl ⟨rfl, rfl⟩
theorem w_Rd_init {l : Launch} {G : ag_G} {d N : Nat} {C : Nat × Nat} (hC : ag_cN G = C.1 ∧ ag_cS G = C.2) (hH : 0 ≤ d) {a : Nat} {h : ag_H} {res : (Int32) × ag_H} (hyp : fn_Rd_init N C a h = some res) : ag_Met gc_P l G m_Rd_init d [.ref a] h (fun v h' => v = none ∧ h' = res.2) := by
  exact ag_met (by decide) rfl (Nat.le_of_ble_eq_true rfl) (ag_dr (ag_d1 rfl ag_d0) (w_Rd_init_0 hC hyp))
def fn_Fa_init_0 (N : Nat) (C : Nat × Nat) (a : Nat) (h : ag_H) : Option ((Int32) × ag_H) := if (¬ ((Int8.ofInt (31)).toInt32) < 0 ∧ ¬ (Int32.ofInt 5) < 0) ∧ (((Int8.ofInt (31)).toInt32).toNatClampNeg * 4 ≤ 536870912 ∧ (Int32.ofInt 5).toNatClampNeg * 4 ≤ 536870912) ∧ h.1 + 1 + ((Int8.ofInt (31)).toInt32).toNatClampNeg ≤ C.1 ∧ h.2.1 + (((Int8.ofInt (31)).toInt32).toNatClampNeg + ((Int8.ofInt (31)).toInt32).toNatClampNeg * (Int32.ofInt 5).toNatClampNeg) ≤ C.2 then ((ag_pf (ag_mn h ((Int8.ofInt (31)).toInt32).toNatClampNeg (Int32.ofInt 5).toNatClampNeg) (ag_rf (some (a))) 4 0 (.array (.array .int)) (.ref (h.1))).bind fun h7 => some (0, h7)) else none
def fn_Fa_init (N : Nat) (C : Nat × Nat) (a : Nat) (h : ag_H) : Option ((Int32) × ag_H) := fn_Fa_init_0 N C a h
theorem w_Fa_init_0 {l : Launch} {G : ag_G} {d N : Nat} {C : Nat × Nat} {a : Nat} (hC : ag_cN G = C.1 ∧ ag_cS G = C.2) {h : ag_H} {res : (Int32) × ag_H} (hyp : fn_Fa_init_0 N C a h = some res) : ag_ev gc_P l G m_Fa_init (d) (ag_ret gc_P G (fun v h' => v = none ∧ h' = res.2)) 0 [(0, .ref a)] [] h := by
  unfold fn_Fa_init_0 at hyp
  have hc : ag_C1 [(0, .ref a)] := (ag_c1 rfl ag_c0)
  refine gc_aload_n (r := (some (a))) d_Fa_init_0 rfl ?_
  refine ag_obji (a := a) d_Fa_init_1 gw_86 gw_34 gw_35 (Nat.le_of_ble_eq_true rfl) ?_
  refine gc_aload_n (r := (some (a))) d_Fa_init_4 rfl ?_
  refine ag_bipush d_Fa_init_5 ?_
  refine ag_iconst d_Fa_init_7 ?_
  obtain ⟨q6, hyp⟩ := md_ifs hyp
  refine gc_mna hC d_Fa_init_8 gw_87 gw_88 gw_74 q6 ?_
  obtain ⟨h7, eh7, hyp⟩ := md_bd hyp
  refine gc_putf (r := (some (a))) d_Fa_init_12 fl_Fa_13 (fun _ => rfl) eh7 ?_
  cases hyp
  exact ag_vret d_Fa_init_15 rfl ⟨rfl, rfl⟩
theorem w_Fa_init {l : Launch} {G : ag_G} {d N : Nat} {C : Nat × Nat} (hC : ag_cN G = C.1 ∧ ag_cS G = C.2) (hH : 0 ≤ d) {a : Nat} {h : ag_H} {res : (Int32) × ag_H} (hyp : fn_Fa_init N C a h = some res) : ag_Met gc_P l G m_Fa_init d [.ref a] h (fun v h' => v = none ∧ h' = res.2) := by
  exact ag_met (by decide) rfl (Nat.le_of_ble_eq_true rfl) (ag_dr (ag_d1 rfl ag_d0) (w_Fa_init_0 hC hyp))
def fn_AbC_init_0 (N : Nat) (C : Nat × Nat) (a : Nat) (h : ag_H) : Option ((Int32) × ag_H) := some (0, h)
def fn_AbC_init (N : Nat) (C : Nat × Nat) (a : Nat) (h : ag_H) : Option ((Int32) × ag_H) := fn_AbC_init_0 N C a h
theorem w_AbC_init_0 {l : Launch} {G : ag_G} {d N : Nat} {C : Nat × Nat} {a : Nat} (hC : ag_cN G = C.1 ∧ ag_cS G = C.2) {h : ag_H} {res : (Int32) × ag_H} (hyp : fn_AbC_init_0 N C a h = some res) : ag_ev gc_P l G m_AbC_init (d) (ag_ret gc_P G (fun v h' => v = none ∧ h' = res.2)) 0 [(0, .ref a)] [] h := by
  unfold fn_AbC_init_0 at hyp
  have hc : ag_C1 [(0, .ref a)] := (ag_c1 rfl ag_c0)
  refine gc_aload_n (r := (some (a))) d_AbC_init_0 rfl ?_
  refine ag_obji (a := a) d_AbC_init_1 gw_124 gw_34 gw_35 (Nat.le_of_ble_eq_true rfl) ?_
  cases hyp
  exact ag_vret d_AbC_init_4 rfl ⟨rfl, rfl⟩
theorem w_AbC_init {l : Launch} {G : ag_G} {d N : Nat} {C : Nat × Nat} (hC : ag_cN G = C.1 ∧ ag_cS G = C.2) (hH : 0 ≤ d) {a : Nat} {h : ag_H} {res : (Int32) × ag_H} (hyp : fn_AbC_init N C a h = some res) : ag_Met gc_P l G m_AbC_init d [.ref a] h (fun v h' => v = none ∧ h' = res.2) := by
  exact ag_met (by decide) rfl (Nat.le_of_ble_eq_true rfl) (ag_dr (ag_d1 rfl ag_d0) (w_AbC_init_0 hC hyp))
def fn_AbL_init_0 (N : Nat) (C : Nat × Nat) (a : Nat) (h : ag_H) : Option ((Int32) × ag_H) := (fn_AbC_init N C (a)  h).bind fun r2 => (ag_pf r2.2 (ag_rf (some (a))) 11 2 .int (.int (Int32.ofInt 0))).bind fun h5 => some (0, h5)
def fn_AbL_init (N : Nat) (C : Nat × Nat) (a : Nat) (h : ag_H) : Option ((Int32) × ag_H) := fn_AbL_init_0 N C a h
theorem w_AbL_init_0 {l : Launch} {G : ag_G} {d N : Nat} {C : Nat × Nat} {a : Nat} (hC : ag_cN G = C.1 ∧ ag_cS G = C.2) (hH : 0 ≤ d) {h : ag_H} {res : (Int32) × ag_H} (hyp : fn_AbL_init_0 N C a h = some res) : ag_ev gc_P l G m_AbL_init (d + 1) (ag_ret gc_P G (fun v h' => v = none ∧ h' = res.2)) 0 [(0, .ref a)] [] h := by
  unfold fn_AbL_init_0 at hyp
  have hc : ag_C1 [(0, .ref a)] := (ag_c1 rfl ag_c0)
  refine gc_aload_n (r := (some (a))) d_AbL_init_0 rfl ?_
  obtain ⟨r2, er2, hyp⟩ := md_bd hyp
  refine ag_calli (a := a) (as := []) d_AbL_init_1 ml_AbL_1 gw_122 rfl rfl (Nat.le_of_ble_eq_true rfl) (w_AbC_init hC (d := d) (by omega) er2) (fun v2 h2 q2 => ?_)
  obtain ⟨rfl, rfl⟩ := q2
  refine gc_aload_n (r := (some (a))) d_AbL_init_4 rfl ?_
  refine ag_iconst d_AbL_init_5 ?_
  obtain ⟨h5, eh5, hyp⟩ := md_bd hyp
  refine gc_putf (r := (some (a))) d_AbL_init_6 fl_AbL_7 (fun q => by cases q) eh5 ?_
  cases hyp
  exact ag_vret d_AbL_init_9 rfl ⟨rfl, rfl⟩
theorem w_AbL_init {l : Launch} {G : ag_G} {d N : Nat} {C : Nat × Nat} (hC : ag_cN G = C.1 ∧ ag_cS G = C.2) (hH : 0 + 1 ≤ d) {a : Nat} {h : ag_H} {res : (Int32) × ag_H} (hyp : fn_AbL_init N C a h = some res) : ag_Met gc_P l G m_AbL_init d [.ref a] h (fun v h' => v = none ∧ h' = res.2) := by
  obtain ⟨d, rfl, hG⟩ := md_dd hH
  exact ag_met (by decide) rfl (Nat.le_of_ble_eq_true rfl) (ag_dr (ag_d1 rfl ag_d0) (w_AbL_init_0 hC hG hyp))
def fn_AL_init_0 (N : Nat) (C : Nat × Nat) (a : Nat) (h : ag_H) : Option ((Int32) × ag_H) := (fn_AbL_init N C (a)  h).bind fun r2 => (ag_pf r2.2 (ag_rf (some (a))) 11 0 (.array (.object "java/lang/Object")) (.ref (1))).bind fun h5 => some (0, h5)
def fn_AL_init (N : Nat) (C : Nat × Nat) (a : Nat) (h : ag_H) : Option ((Int32) × ag_H) := fn_AL_init_0 N C a h
theorem w_AL_init_0 {l : Launch} {G : ag_G} {d N : Nat} {C : Nat × Nat} {a : Nat} (hC : ag_cN G = C.1 ∧ ag_cS G = C.2) (hH : 1 ≤ d) {h : ag_H} {res : (Int32) × ag_H} (hyp : fn_AL_init_0 N C a h = some res) : ag_ev gc_P l G m_AL_init (d + 1) (ag_ret gc_P G (fun v h' => v = none ∧ h' = res.2)) 0 [(0, .ref a)] [] h := by
  unfold fn_AL_init_0 at hyp
  have hc : ag_C1 [(0, .ref a)] := (ag_c1 rfl ag_c0)
  refine gc_aload_n (r := (some (a))) d_AL_init_0 rfl ?_
  obtain ⟨r2, er2, hyp⟩ := md_bd hyp
  refine ag_calli (a := a) (as := []) d_AL_init_1 ml_AL_1 gw_119 rfl rfl (Nat.le_of_ble_eq_true rfl) (w_AbL_init hC (d := d) (by omega) er2) (fun v2 h2 q2 => ?_)
  obtain ⟨rfl, rfl⟩ := q2
  refine gc_aload_n (r := (some (a))) d_AL_init_4 rfl ?_
  refine ag_gets d_AL_init_5 gw_125 ?_
  obtain ⟨h5, eh5, hyp⟩ := md_bd hyp
  refine gc_putf (r := (some (a))) d_AL_init_8 fl_AL_9 (fun q => by cases q) eh5 ?_
  cases hyp
  exact ag_vret d_AL_init_11 rfl ⟨rfl, rfl⟩
theorem w_AL_init {l : Launch} {G : ag_G} {d N : Nat} {C : Nat × Nat} (hC : ag_cN G = C.1 ∧ ag_cS G = C.2) (hH : 1 + 1 ≤ d) {a : Nat} {h : ag_H} {res : (Int32) × ag_H} (hyp : fn_AL_init N C a h = some res) : ag_Met gc_P l G m_AL_init d [.ref a] h (fun v h' => v = none ∧ h' = res.2) := by
  obtain ⟨d, rfl, hG⟩ := md_dd hH
  exact ag_met (by decide) rfl (Nat.le_of_ble_eq_true rfl) (ag_dr (ag_d1 rfl ag_d0) (w_AL_init_0 hC hG hyp))
def fn_Bk_init_0 (N : Nat) (C : Nat × Nat) (a : Nat) (h : ag_H) : Option ((Int32) × ag_H) := if h.1 + 1 ≤ C.1 ∧ h.2.1 + 3 ≤ C.2 then ((fn_AL_init N C (h.1)  (ag_nw h 3 (.inr (11, [.null, .int 0, .int 0])))).bind fun r6 => (ag_pf r6.2 (ag_rf (some (a))) 5 0 (.object "java/util/List") (.ref (h.1))).bind fun h7 => some (0, h7)) else none
def fn_Bk_init (N : Nat) (C : Nat × Nat) (a : Nat) (h : ag_H) : Option ((Int32) × ag_H) := fn_Bk_init_0 N C a h
theorem w_Bk_init_0 {l : Launch} {G : ag_G} {d N : Nat} {C : Nat × Nat} {a : Nat} (hC : ag_cN G = C.1 ∧ ag_cS G = C.2) (hH : 2 ≤ d) {h : ag_H} {res : (Int32) × ag_H} (hyp : fn_Bk_init_0 N C a h = some res) : ag_ev gc_P l G m_Bk_init (d + 1) (ag_ret gc_P G (fun v h' => v = none ∧ h' = res.2)) 0 [(0, .ref a)] [] h := by
  unfold fn_Bk_init_0 at hyp
  have hc : ag_C1 [(0, .ref a)] := (ag_c1 rfl ag_c0)
  refine gc_aload_n (r := (some (a))) d_Bk_init_0 rfl ?_
  refine ag_obji (a := a) d_Bk_init_1 gw_112 gw_34 gw_35 (Nat.le_of_ble_eq_true rfl) ?_
  refine gc_aload_n (r := (some (a))) d_Bk_init_4 rfl ?_
  obtain ⟨q4, hyp⟩ := md_ifs hyp
  refine gc_new (ci := 11) hC d_Bk_init_5 gw_113 gw_114 gw_9 rfl nf_AL q4 ?_
  refine ag_dup d_Bk_init_8 rfl ?_
  obtain ⟨r6, er6, hyp⟩ := md_bd hyp
  refine ag_calli (a := h.1) (as := []) d_Bk_init_9 ml_Bk_9 gw_116 rfl rfl (Nat.le_of_ble_eq_true rfl) (w_AL_init hC (d := d) (by omega) er6) (fun v6 h6 q6 => ?_)
  obtain ⟨rfl, rfl⟩ := q6
  obtain ⟨h7, eh7, hyp⟩ := md_bd hyp
  refine gc_putf (r := (some (a))) d_Bk_init_12 fl_Bk_10 (fun _ => rfl) eh7 ?_
  cases hyp
  exact ag_vret d_Bk_init_15 rfl ⟨rfl, rfl⟩
theorem w_Bk_init {l : Launch} {G : ag_G} {d N : Nat} {C : Nat × Nat} (hC : ag_cN G = C.1 ∧ ag_cS G = C.2) (hH : 2 + 1 ≤ d) {a : Nat} {h : ag_H} {res : (Int32) × ag_H} (hyp : fn_Bk_init N C a h = some res) : ag_Met gc_P l G m_Bk_init d [.ref a] h (fun v h' => v = none ∧ h' = res.2) := by
  obtain ⟨d, rfl, hG⟩ := md_dd hH
  exact ag_met (by decide) rfl (Nat.le_of_ble_eq_true rfl) (ag_dr (ag_d1 rfl ag_d0) (w_Bk_init_0 hC hG hyp))
def fn_Jg_init_0 (N : Nat) (C : Nat × Nat) (a : Nat) (h : ag_H) : Option ((Int32) × ag_H) := if h.1 + 1 ≤ C.1 ∧ h.2.1 + 4 ≤ C.2 then ((fn_Fa_init N C (h.1)  (ag_nw h 4 (.inr (4, [.null, .int 0, .int 0, .int 0])))).bind fun r6 => (ag_pf r6.2 (ag_rf (some (a))) 3 0 (.object "GrantChain$Facts") (.ref (h.1))).bind fun h7 => if h7.1 + 1 ≤ C.1 ∧ h7.2.1 + 1 ≤ C.2 then ((fn_Bk_init N C (h7.1)  (ag_nw h7 1 (.inr (5, [.null])))).bind fun r11 => (ag_pf r11.2 (ag_rf (some (a))) 3 1 (.object "GrantChain$Block") (.ref (h7.1))).bind fun h12 => if ¬ (Int32.ofInt 5) < 0 ∧ (Int32.ofInt 5).toNatClampNeg * 4 ≤ 536870912 ∧ h12.1 + 1 ≤ C.1 ∧ h12.2.1 + (Int32.ofInt 5).toNatClampNeg ≤ C.2 then ((ag_gr (ag_nw h12 (Int32.ofInt 5).toNatClampNeg (.inl (5, (Int32.ofInt 5).toNatClampNeg, .inr (.inr (.inr (.inr (fun _ => none))))))) (some (a)) 3 1).bind fun g19 => (ag_as (ag_nw h12 (Int32.ofInt 5).toNatClampNeg (.inl (5, (Int32.ofInt 5).toNatClampNeg, .inr (.inr (.inr (.inr (fun _ => none))))))) (some (h12.1)) (Int32.ofInt 0) (g19)).bind fun h20 => (ag_gr h20 (some (a)) 3 1).bind fun g24 => (ag_as h20 (some (h12.1)) (Int32.ofInt 1) (g24)).bind fun h25 => (ag_gr h25 (some (a)) 3 1).bind fun g29 => (ag_as h25 (some (h12.1)) (Int32.ofInt 2) (g29)).bind fun h30 => (ag_gr h30 (some (a)) 3 1).bind fun g34 => (ag_as h30 (some (h12.1)) (Int32.ofInt 3) (g34)).bind fun h35 => (ag_gr h35 (some (a)) 3 1).bind fun g39 => (ag_as h35 (some (h12.1)) (Int32.ofInt 4) (g39)).bind fun h40 => (ag_pf h40 (ag_rf (some (a))) 3 2 (.array (.object "GrantChain$Block")) (.ref (h12.1))).bind fun h41 => if ¬ ((Int8.ofInt (8)).toInt32) < 0 ∧ ((Int8.ofInt (8)).toInt32).toNatClampNeg * 4 ≤ 536870912 ∧ h41.1 + 1 ≤ C.1 ∧ h41.2.1 + ((Int8.ofInt (8)).toInt32).toNatClampNeg ≤ C.2 then ((ag_pf (ag_nw h41 ((Int8.ofInt (8)).toInt32).toNatClampNeg (.inl (0, ((Int8.ofInt (8)).toInt32).toNatClampNeg, .inl (fun _ => 0)))) (ag_rf (some (a))) 3 6 (.array .int) (.ref (h41.1))).bind fun h45 => if ¬ ((Int8.ofInt (40)).toInt32) < 0 ∧ ((Int8.ofInt (40)).toInt32).toNatClampNeg * 4 ≤ 536870912 ∧ h45.1 + 1 ≤ C.1 ∧ h45.2.1 + ((Int8.ofInt (40)).toInt32).toNatClampNeg ≤ C.2 then ((ag_pf (ag_nw h45 ((Int8.ofInt (40)).toInt32).toNatClampNeg (.inl (0, ((Int8.ofInt (40)).toInt32).toNatClampNeg, .inl (fun _ => 0)))) (ag_rf (some (a))) 3 7 (.array .int) (.ref (h45.1))).bind fun h49 => some (0, h49)) else none) else none) else none) else none) else none
def fn_Jg_init (N : Nat) (C : Nat × Nat) (a : Nat) (h : ag_H) : Option ((Int32) × ag_H) := fn_Jg_init_0 N C a h
theorem w_Jg_init_0 {l : Launch} {G : ag_G} {d N : Nat} {C : Nat × Nat} {a : Nat} (hC : ag_cN G = C.1 ∧ ag_cS G = C.2) (hH : 3 ≤ d) {h : ag_H} {res : (Int32) × ag_H} (hyp : fn_Jg_init_0 N C a h = some res) : ag_ev gc_P l G m_Jg_init (d + 1) (ag_ret gc_P G (fun v h' => v = none ∧ h' = res.2)) 0 [(0, .ref a)] [] h := by
  unfold fn_Jg_init_0 at hyp
  have hc : ag_C1 [(0, .ref a)] := (ag_c1 rfl ag_c0)
  refine gc_aload_n (r := (some (a))) d_Jg_init_0 rfl ?_
  refine ag_obji (a := a) d_Jg_init_1 gw_80 gw_34 gw_35 (Nat.le_of_ble_eq_true rfl) ?_
  refine gc_aload_n (r := (some (a))) d_Jg_init_4 rfl ?_
  obtain ⟨q4, hyp⟩ := md_ifs hyp
  refine gc_new (ci := 4) hC d_Jg_init_5 gw_81 gw_82 gw_5 rfl nf_Fa q4 ?_
  refine ag_dup d_Jg_init_8 rfl ?_
  obtain ⟨r6, er6, hyp⟩ := md_bd hyp
  refine ag_calli (a := h.1) (as := []) d_Jg_init_9 ml_Jg_13 gw_84 rfl rfl (Nat.le_of_ble_eq_true rfl) (w_Fa_init hC (d := d) (by omega) er6) (fun v6 h6 q6 => ?_)
  obtain ⟨rfl, rfl⟩ := q6
  obtain ⟨h7, eh7, hyp⟩ := md_bd hyp
  refine gc_putf (r := (some (a))) d_Jg_init_12 fl_Jg_14 (fun _ => rfl) eh7 ?_
  refine gc_aload_n (r := (some (a))) d_Jg_init_15 rfl ?_
  obtain ⟨q9, hyp⟩ := md_ifs hyp
  refine gc_new (ci := 5) hC d_Jg_init_16 gw_107 gw_108 gw_6 rfl nf_Bk q9 ?_
  refine ag_dup d_Jg_init_19 rfl ?_
  obtain ⟨r11, er11, hyp⟩ := md_bd hyp
  refine ag_calli (a := h7.1) (as := []) d_Jg_init_20 ml_Jg_20 gw_110 rfl rfl (Nat.le_of_ble_eq_true rfl) (w_Bk_init hC (d := d) (by omega) er11) (fun v11 h11 q11 => ?_)
  obtain ⟨rfl, rfl⟩ := q11
  obtain ⟨h12, eh12, hyp⟩ := md_bd hyp
  refine gc_putf (r := (some (a))) d_Jg_init_23 fl_Jg_21 (fun _ => rfl) eh12 ?_
  refine gc_aload_n (r := (some (a))) d_Jg_init_26 rfl ?_
  refine ag_iconst d_Jg_init_27 ?_
  obtain ⟨q15, hyp⟩ := md_ifs hyp
  refine gc_anew (t := 5) hC d_Jg_init_28 gw_107 gw_145 rfl q15 ?_
  refine ag_dup d_Jg_init_31 rfl ?_
  refine ag_iconst d_Jg_init_32 ?_
  refine gc_aload_n (r := (some (a))) d_Jg_init_33 rfl ?_
  obtain ⟨g19, eg19, hyp⟩ := md_bd hyp
  refine gc_getr (r := (some (a))) d_Jg_init_34 fr_Jg_21 eg19 ?_
  obtain ⟨h20, eh20, hyp⟩ := md_bd hyp
  refine gc_ast (r := (some (h12.1))) (w := (g19)) d_Jg_init_37 eh20 ?_
  refine ag_dup d_Jg_init_38 rfl ?_
  refine ag_iconst d_Jg_init_39 ?_
  refine gc_aload_n (r := (some (a))) d_Jg_init_40 rfl ?_
  obtain ⟨g24, eg24, hyp⟩ := md_bd hyp
  refine gc_getr (r := (some (a))) d_Jg_init_41 fr_Jg_21 eg24 ?_
  obtain ⟨h25, eh25, hyp⟩ := md_bd hyp
  refine gc_ast (r := (some (h12.1))) (w := (g24)) d_Jg_init_44 eh25 ?_
  refine ag_dup d_Jg_init_45 rfl ?_
  refine ag_iconst d_Jg_init_46 ?_
  refine gc_aload_n (r := (some (a))) d_Jg_init_47 rfl ?_
  obtain ⟨g29, eg29, hyp⟩ := md_bd hyp
  refine gc_getr (r := (some (a))) d_Jg_init_48 fr_Jg_21 eg29 ?_
  obtain ⟨h30, eh30, hyp⟩ := md_bd hyp
  refine gc_ast (r := (some (h12.1))) (w := (g29)) d_Jg_init_51 eh30 ?_
  refine ag_dup d_Jg_init_52 rfl ?_
  refine ag_iconst d_Jg_init_53 ?_
  refine gc_aload_n (r := (some (a))) d_Jg_init_54 rfl ?_
  obtain ⟨g34, eg34, hyp⟩ := md_bd hyp
  refine gc_getr (r := (some (a))) d_Jg_init_55 fr_Jg_21 eg34 ?_
  obtain ⟨h35, eh35, hyp⟩ := md_bd hyp
  refine gc_ast (r := (some (h12.1))) (w := (g34)) d_Jg_init_58 eh35 ?_
  refine ag_dup d_Jg_init_59 rfl ?_
  refine ag_iconst d_Jg_init_60 ?_
  refine gc_aload_n (r := (some (a))) d_Jg_init_61 rfl ?_
  obtain ⟨g39, eg39, hyp⟩ := md_bd hyp
  refine gc_getr (r := (some (a))) d_Jg_init_62 fr_Jg_21 eg39 ?_
  obtain ⟨h40, eh40, hyp⟩ := md_bd hyp
  refine gc_ast (r := (some (h12.1))) (w := (g39)) d_Jg_init_65 eh40 ?_
  obtain ⟨h41, eh41, hyp⟩ := md_bd hyp
  refine gc_putf (r := (some (a))) d_Jg_init_66 fl_Jg_25 (fun _ => rfl) eh41 ?_
  refine gc_aload_n (r := (some (a))) d_Jg_init_69 rfl ?_
  refine ag_bipush d_Jg_init_70 ?_
  obtain ⟨q44, hyp⟩ := md_ifs hyp
  refine gc_newi (ty := .int) (t := 0) (b := 4) hC d_Jg_init_72 gw_74 rfl rfl (fun D q => by cases q) rfl rfl q44 ?_
  obtain ⟨h45, eh45, hyp⟩ := md_bd hyp
  refine gc_putf (r := (some (a))) d_Jg_init_74 fl_Jg_29 (fun _ => rfl) eh45 ?_
  refine gc_aload_n (r := (some (a))) d_Jg_init_77 rfl ?_
  refine ag_bipush d_Jg_init_78 ?_
  obtain ⟨q48, hyp⟩ := md_ifs hyp
  refine gc_newi (ty := .int) (t := 0) (b := 4) hC d_Jg_init_80 gw_74 rfl rfl (fun D q => by cases q) rfl rfl q48 ?_
  obtain ⟨h49, eh49, hyp⟩ := md_bd hyp
  refine gc_putf (r := (some (a))) d_Jg_init_82 fl_Jg_33 (fun _ => rfl) eh49 ?_
  cases hyp
  exact ag_vret d_Jg_init_85 rfl ⟨rfl, rfl⟩
theorem w_Jg_init {l : Launch} {G : ag_G} {d N : Nat} {C : Nat × Nat} (hC : ag_cN G = C.1 ∧ ag_cS G = C.2) (hH : 3 + 1 ≤ d) {a : Nat} {h : ag_H} {res : (Int32) × ag_H} (hyp : fn_Jg_init N C a h = some res) : ag_Met gc_P l G m_Jg_init d [.ref a] h (fun v h' => v = none ∧ h' = res.2) := by
  obtain ⟨d, rfl, hG⟩ := md_dd hH
  exact ag_met (by decide) rfl (Nat.le_of_ble_eq_true rfl) (ag_dr (ag_d1 rfl ag_d0) (w_Jg_init_0 hC hG hyp))
def fn_GC_init_0 (N : Nat) (C : Nat × Nat) (a : Nat) (h : ag_H) : Option ((Int32) × ag_H) := if h.1 + 1 ≤ C.1 ∧ h.2.1 + 3 ≤ C.2 then ((fn_Ln_init N C (h.1)  (ag_nw h 3 (.inr (1, [.null, .int 0, .int 0])))).bind fun r6 => (ag_pf r6.2 (ag_rf (some (a))) 0 0 (.object "GrantChain$Line") (.ref (h.1))).bind fun h7 => if h7.1 + 1 ≤ C.1 ∧ h7.2.1 + 4 ≤ C.2 then ((fn_Rd_init N C (h7.1)  (ag_nw h7 4 (.inr (2, [.null, .int 0, .int 0, .int 0])))).bind fun r11 => (ag_pf r11.2 (ag_rf (some (a))) 0 1 (.object "GrantChain$Reader") (.ref (h7.1))).bind fun h12 => if h12.1 + 1 ≤ C.1 ∧ h12.2.1 + 14 ≤ C.2 then ((fn_Jg_init N C (h12.1)  (ag_nw h12 14 (.inr (3, [.null, .null, .null, .int 0, .int 0, .int 0, .null, .null, .int 0, .int 0, .int 0, .int 0, .int 0, .int 0])))).bind fun r16 => (ag_pf r16.2 (ag_rf (some (a))) 0 2 (.object "GrantChain$Judge") (.ref (h12.1))).bind fun h17 => if h17.1 + 1 ≤ C.1 ∧ h17.2.1 + 1 ≤ C.2 then ((fn_Bk_init N C (h17.1)  (ag_nw h17 1 (.inr (5, [.null])))).bind fun r21 => (ag_pf r21.2 (ag_rf (some (a))) 0 3 (.object "GrantChain$Block") (.ref (h17.1))).bind fun h22 => if h22.1 + 1 ≤ C.1 ∧ h22.2.1 + 3 ≤ C.2 then ((fn_AL_init N C (h22.1)  (ag_nw h22 3 (.inr (11, [.null, .int 0, .int 0])))).bind fun r26 => (ag_pf r26.2 (ag_rf (some (a))) 0 4 (.object "java/util/List") (.ref (h22.1))).bind fun h27 => if h27.1 + 1 ≤ C.1 ∧ h27.2.1 + 3 ≤ C.2 then ((fn_AL_init N C (h27.1)  (ag_nw h27 3 (.inr (11, [.null, .int 0, .int 0])))).bind fun r31 => (ag_pf r31.2 (ag_rf (some (a))) 0 5 (.object "java/util/List") (.ref (h27.1))).bind fun h32 => if h32.1 + 1 ≤ C.1 ∧ h32.2.1 + 1 ≤ C.2 then ((fn_Bk_init N C (h32.1)  (ag_nw h32 1 (.inr (5, [.null])))).bind fun r36 => (ag_pf r36.2 (ag_rf (some (a))) 0 6 (.object "GrantChain$Block") (.ref (h32.1))).bind fun h37 => (ag_pf h37 (ag_rf (some (a))) 0 7 .int (.int (Int32.ofInt 3))).bind fun h40 => (ag_pf h40 (ag_rf (some (a))) 0 8 .int (.int ((Int8.ofInt (30)).toInt32))).bind fun h43 => (ag_pf h43 (ag_rf (some (a))) 0 9 .int (.int ((Int8.ofInt (10)).toInt32))).bind fun h46 => some (0, h46)) else none) else none) else none) else none) else none) else none) else none
def fn_GC_init (N : Nat) (C : Nat × Nat) (a : Nat) (h : ag_H) : Option ((Int32) × ag_H) := fn_GC_init_0 N C a h
theorem w_GC_init_0 {l : Launch} {G : ag_G} {d N : Nat} {C : Nat × Nat} {a : Nat} (hC : ag_cN G = C.1 ∧ ag_cS G = C.2) (hH : 4 ≤ d) {h : ag_H} {res : (Int32) × ag_H} (hyp : fn_GC_init_0 N C a h = some res) : ag_ev gc_P l G m_GC_init (d + 1) (ag_ret gc_P G (fun v h' => v = none ∧ h' = res.2)) 0 [(0, .ref a)] [] h := by
  unfold fn_GC_init_0 at hyp
  have hc : ag_C1 [(0, .ref a)] := (ag_c1 rfl ag_c0)
  refine gc_aload_n (r := (some (a))) d_GC_init_0 rfl ?_
  refine ag_obji (a := a) d_GC_init_1 gw_33 gw_34 gw_35 (Nat.le_of_ble_eq_true rfl) ?_
  refine gc_aload_n (r := (some (a))) d_GC_init_4 rfl ?_
  obtain ⟨q4, hyp⟩ := md_ifs hyp
  refine gc_new (ci := 1) hC d_GC_init_5 gw_36 gw_37 gw_2 rfl nf_Ln q4 ?_
  refine ag_dup d_GC_init_8 rfl ?_
  obtain ⟨r6, er6, hyp⟩ := md_bd hyp
  refine ag_calli (a := h.1) (as := []) d_GC_init_9 ml_GC_9 gw_39 rfl rfl (Nat.le_of_ble_eq_true rfl) (w_Ln_init hC (d := d) (by omega) er6) (fun v6 h6 q6 => ?_)
  obtain ⟨rfl, rfl⟩ := q6
  obtain ⟨h7, eh7, hyp⟩ := md_bd hyp
  refine gc_putf (r := (some (a))) d_GC_init_12 fl_GC_10 (fun _ => rfl) eh7 ?_
  refine gc_aload_n (r := (some (a))) d_GC_init_15 rfl ?_
  obtain ⟨q9, hyp⟩ := md_ifs hyp
  refine gc_new (ci := 2) hC d_GC_init_16 gw_55 gw_56 gw_3 rfl nf_Rd q9 ?_
  refine ag_dup d_GC_init_19 rfl ?_
  obtain ⟨r11, er11, hyp⟩ := md_bd hyp
  refine ag_calli (a := h7.1) (as := []) d_GC_init_20 ml_GC_18 gw_58 rfl rfl (Nat.le_of_ble_eq_true rfl) (w_Rd_init hC (d := d) (by omega) er11) (fun v11 h11 q11 => ?_)
  obtain ⟨rfl, rfl⟩ := q11
  obtain ⟨h12, eh12, hyp⟩ := md_bd hyp
  refine gc_putf (r := (some (a))) d_GC_init_23 fl_GC_19 (fun _ => rfl) eh12 ?_
  refine gc_aload_n (r := (some (a))) d_GC_init_26 rfl ?_
  obtain ⟨q14, hyp⟩ := md_ifs hyp
  refine gc_new (ci := 3) hC d_GC_init_27 gw_75 gw_76 gw_4 rfl nf_Jg q14 ?_
  refine ag_dup d_GC_init_30 rfl ?_
  obtain ⟨r16, er16, hyp⟩ := md_bd hyp
  refine ag_calli (a := h12.1) (as := []) d_GC_init_31 ml_GC_25 gw_78 rfl rfl (Nat.le_of_ble_eq_true rfl) (w_Jg_init hC (d := d) (by omega) er16) (fun v16 h16 q16 => ?_)
  obtain ⟨rfl, rfl⟩ := q16
  obtain ⟨h17, eh17, hyp⟩ := md_bd hyp
  refine gc_putf (r := (some (a))) d_GC_init_34 fl_GC_26 (fun _ => rfl) eh17 ?_
  refine gc_aload_n (r := (some (a))) d_GC_init_37 rfl ?_
  obtain ⟨q19, hyp⟩ := md_ifs hyp
  refine gc_new (ci := 5) hC d_GC_init_38 gw_195 gw_108 gw_6 rfl nf_Bk q19 ?_
  refine ag_dup d_GC_init_41 rfl ?_
  obtain ⟨r21, er21, hyp⟩ := md_bd hyp
  refine ag_calli (a := h17.1) (as := []) d_GC_init_42 ml_GC_32 gw_110 rfl rfl (Nat.le_of_ble_eq_true rfl) (w_Bk_init hC (d := d) (by omega) er21) (fun v21 h21 q21 => ?_)
  obtain ⟨rfl, rfl⟩ := q21
  obtain ⟨h22, eh22, hyp⟩ := md_bd hyp
  refine gc_putf (r := (some (a))) d_GC_init_45 fl_GC_33 (fun _ => rfl) eh22 ?_
  refine gc_aload_n (r := (some (a))) d_GC_init_48 rfl ?_
  obtain ⟨q24, hyp⟩ := md_ifs hyp
  refine gc_new (ci := 11) hC d_GC_init_49 gw_197 gw_114 gw_9 rfl nf_AL q24 ?_
  refine ag_dup d_GC_init_52 rfl ?_
  obtain ⟨r26, er26, hyp⟩ := md_bd hyp
  refine ag_calli (a := h22.1) (as := []) d_GC_init_53 ml_GC_39 gw_116 rfl rfl (Nat.le_of_ble_eq_true rfl) (w_AL_init hC (d := d) (by omega) er26) (fun v26 h26 q26 => ?_)
  obtain ⟨rfl, rfl⟩ := q26
  obtain ⟨h27, eh27, hyp⟩ := md_bd hyp
  refine gc_putf (r := (some (a))) d_GC_init_56 fl_GC_40 (fun _ => rfl) eh27 ?_
  refine gc_aload_n (r := (some (a))) d_GC_init_59 rfl ?_
  obtain ⟨q29, hyp⟩ := md_ifs hyp
  refine gc_new (ci := 11) hC d_GC_init_60 gw_197 gw_114 gw_9 rfl nf_AL q29 ?_
  refine ag_dup d_GC_init_63 rfl ?_
  obtain ⟨r31, er31, hyp⟩ := md_bd hyp
  refine ag_calli (a := h27.1) (as := []) d_GC_init_64 ml_GC_39 gw_116 rfl rfl (Nat.le_of_ble_eq_true rfl) (w_AL_init hC (d := d) (by omega) er31) (fun v31 h31 q31 => ?_)
  obtain ⟨rfl, rfl⟩ := q31
  obtain ⟨h32, eh32, hyp⟩ := md_bd hyp
  refine gc_putf (r := (some (a))) d_GC_init_67 fl_GC_44 (fun _ => rfl) eh32 ?_
  refine gc_aload_n (r := (some (a))) d_GC_init_70 rfl ?_
  obtain ⟨q34, hyp⟩ := md_ifs hyp
  refine gc_new (ci := 5) hC d_GC_init_71 gw_195 gw_108 gw_6 rfl nf_Bk q34 ?_
  refine ag_dup d_GC_init_74 rfl ?_
  obtain ⟨r36, er36, hyp⟩ := md_bd hyp
  refine ag_calli (a := h32.1) (as := []) d_GC_init_75 ml_GC_32 gw_110 rfl rfl (Nat.le_of_ble_eq_true rfl) (w_Bk_init hC (d := d) (by omega) er36) (fun v36 h36 q36 => ?_)
  obtain ⟨rfl, rfl⟩ := q36
  obtain ⟨h37, eh37, hyp⟩ := md_bd hyp
  refine gc_putf (r := (some (a))) d_GC_init_78 fl_GC_47 (fun q => by cases q) eh37 ?_
  refine gc_aload_n (r := (some (a))) d_GC_init_81 rfl ?_
  refine ag_iconst d_GC_init_82 ?_
  obtain ⟨h40, eh40, hyp⟩ := md_bd hyp
  refine gc_putf (r := (some (a))) d_GC_init_83 fl_GC_50 (fun q => by cases q) eh40 ?_
  refine gc_aload_n (r := (some (a))) d_GC_init_86 rfl ?_
  refine ag_bipush d_GC_init_87 ?_
  obtain ⟨h43, eh43, hyp⟩ := md_bd hyp
  refine gc_putf (r := (some (a))) d_GC_init_89 fl_GC_54 (fun q => by cases q) eh43 ?_
  refine gc_aload_n (r := (some (a))) d_GC_init_92 rfl ?_
  refine ag_bipush d_GC_init_93 ?_
  obtain ⟨h46, eh46, hyp⟩ := md_bd hyp
  refine gc_putf (r := (some (a))) d_GC_init_95 fl_GC_57 (fun q => by cases q) eh46 ?_
  cases hyp
  exact ag_vret d_GC_init_98 rfl ⟨rfl, rfl⟩
theorem w_GC_init {l : Launch} {G : ag_G} {d N : Nat} {C : Nat × Nat} (hC : ag_cN G = C.1 ∧ ag_cS G = C.2) (hH : 4 + 1 ≤ d) {a : Nat} {h : ag_H} {res : (Int32) × ag_H} (hyp : fn_GC_init N C a h = some res) : ag_Met gc_P l G m_GC_init d [.ref a] h (fun v h' => v = none ∧ h' = res.2) := by
  obtain ⟨d, rfl, hG⟩ := md_dd hH
  exact ag_met (by decide) rfl (Nat.le_of_ble_eq_true rfl) (ag_dr (ag_d1 rfl ag_d0) (w_GC_init_0 hC hG hyp))
def fn_Ln_put_21 (N : Nat) (C : Nat × Nat) (a : Nat) (h : ag_H) : Option ((Int32) × ag_H) := if md_01 (Int32.ofInt 0) = true then (some ((Int32.ofInt 0), h)) else none
def fn_Ln_put_0 (N : Nat) (C : Nat × Nat) (a : Nat) (x1 : Int32) (h : ag_H) : Option ((Int32) × ag_H) := if (x1) < ((Int8.ofInt (32)).toInt32) then (fn_Ln_put_21 N C a  h) else (if ((Int8.ofInt (126)).toInt32) < (x1) then (fn_Ln_put_21 N C a  h) else ((ag_gi h (some (a)) 1 1).bind fun g8 => if (g8) < ((Int8.ofInt (40)).toInt32) then ((ag_gr h (some (a)) 1 0).bind fun g12 => (ag_gi h (some (a)) 1 1).bind fun g14 => (ag_ai h 1 (g12)).bind fun p16 => if md_in (g14) p16.1 = true then ((ag_gi (ag_up h ((g12).getD 0) (.inl (1, p16.1, .inl (upd p16.2 (g14).toNatClampNeg (vp_nar .char (x1)))))) (some (a)) 1 1).bind fun g19 => (ag_pf (ag_up h ((g12).getD 0) (.inl (1, p16.1, .inl (upd p16.2 (g14).toNatClampNeg (vp_nar .char (x1)))))) (ag_rf (some (a))) 1 1 .int (.int ((g19) + (Int32.ofInt 1)))).bind fun h22 => if md_01 (Int32.ofInt 1) = true then (some ((Int32.ofInt 1), h22)) else none) else none) else (fn_Ln_put_21 N C a  h)))
def fn_Ln_put (N : Nat) (C : Nat × Nat) (a : Nat) (p1 : Int32) (h : ag_H) : Option ((Int32) × ag_H) := fn_Ln_put_0 N C a p1 h
theorem w_Ln_put_21 {l : Launch} {G : ag_G} {d N : Nat} {C : Nat × Nat} {a : Nat} (hC : ag_cN G = C.1 ∧ ag_cS G = C.2) {h : ag_H} {res : (Int32) × ag_H} (hyp : fn_Ln_put_21 N C a h = some res) : ag_ev gc_P l G m_Ln_put (d) (ag_ret gc_P G (fun v h' => v = some (.int res.1) ∧ h' = res.2)) 21 [(0, .ref a)] [] h := by
  unfold fn_Ln_put_21 at hyp
  have hc : ag_C1 [(0, .ref a)] := (ag_c1 rfl ag_c0)
  refine ag_iconst d_Ln_put_21 ?_
  obtain ⟨q2, hyp⟩ := md_ifs hyp
  cases hyp
  exact ag_iret d_Ln_put_22 rfl (md_01n q2) ⟨rfl, rfl⟩
theorem w_Ln_put_0 {l : Launch} {G : ag_G} {d N : Nat} {C : Nat × Nat} {a : Nat} (hC : ag_cN G = C.1 ∧ ag_cS G = C.2) {x1 : Int32} {h : ag_H} {res : (Int32) × ag_H} (hyp : fn_Ln_put_0 N C a x1 h = some res) : ag_ev gc_P l G m_Ln_put (d) (ag_ret gc_P G (fun v h' => v = some (.int res.1) ∧ h' = res.2)) 0 [(0, .ref a), (1, .int (x1))] [] h := by
  unfold fn_Ln_put_0 at hyp
  have hc : ag_C1 [(0, .ref a), (1, .int (x1))] := (ag_c1 rfl (ag_c1 rfl ag_c0))
  refine ag_iload_n d_Ln_put_0 rfl ?_
  refine ag_bipush d_Ln_put_1 ?_
  refine ag_icmp_lt d_Ln_put_3 rfl (fun q => ?_) (fun q => ?_)
  · replace hyp := md_ifp q hyp
    exact ag_dr (ag_d1 rfl ag_d0) (w_Ln_put_21 hC hyp)
  · replace hyp := md_ifn q hyp
    refine ag_iload_n d_Ln_put_6 rfl ?_
    refine ag_bipush d_Ln_put_7 ?_
    refine ag_icmp_gt d_Ln_put_9 rfl (fun q => ?_) (fun q => ?_)
    · replace hyp := md_ifp q hyp
      exact ag_dr (ag_d1 rfl ag_d0) (w_Ln_put_21 hC hyp)
    · replace hyp := md_ifn q hyp
      refine gc_aload_n (r := (some (a))) d_Ln_put_12 rfl ?_
      obtain ⟨g8, eg8, hyp⟩ := md_bd hyp
      refine gc_geti (r := (some (a))) d_Ln_put_13 fr_Ln_15 eg8 ?_
      refine ag_bipush d_Ln_put_16 ?_
      refine ag_icmp_lt d_Ln_put_18 rfl (fun q => ?_) (fun q => ?_)
      · replace hyp := md_ifp q hyp
        refine gc_aload_n (r := (some (a))) d_Ln_put_23 rfl ?_
        obtain ⟨g12, eg12, hyp⟩ := md_bd hyp
        refine gc_getr (r := (some (a))) d_Ln_put_24 fr_Ln_9 eg12 ?_
        refine gc_aload_n (r := (some (a))) d_Ln_put_27 rfl ?_
        obtain ⟨g14, eg14, hyp⟩ := md_bd hyp
        refine gc_geti (r := (some (a))) d_Ln_put_28 fr_Ln_15 eg14 ?_
        refine ag_iload_n d_Ln_put_31 rfl ?_
        obtain ⟨p16, ep16, hyp⟩ := md_bd hyp
        obtain ⟨q16, hyp⟩ := md_ifs hyp
        refine gc_cst (r := (g12)) d_Ln_put_32 ep16 q16 ?_
        refine gc_aload_n (r := (some (a))) d_Ln_put_33 rfl ?_
        refine ag_dup d_Ln_put_34 rfl ?_
        obtain ⟨g19, eg19, hyp⟩ := md_bd hyp
        refine gc_geti (r := (some (a))) d_Ln_put_35 fr_Ln_15 eg19 ?_
        refine ag_iconst d_Ln_put_38 ?_
        refine ag_iadd d_Ln_put_39 ?_
        obtain ⟨h22, eh22, hyp⟩ := md_bd hyp
        refine gc_putf (r := (some (a))) d_Ln_put_40 fl_Ln_15 (fun q => by cases q) eh22 ?_
        refine ag_iconst d_Ln_put_43 ?_
        obtain ⟨q24, hyp⟩ := md_ifs hyp
        cases hyp
        exact ag_iret d_Ln_put_44 rfl (md_01n q24) ⟨rfl, rfl⟩
      · replace hyp := md_ifn q hyp
        exact ag_dr (ag_d1 rfl ag_d0) (w_Ln_put_21 hC hyp)
theorem w_Ln_put {l : Launch} {G : ag_G} {d N : Nat} {C : Nat × Nat} (hC : ag_cN G = C.1 ∧ ag_cS G = C.2) (hH : 0 ≤ d) {a : Nat} {p1 : Int32} {h : ag_H} {res : (Int32) × ag_H} (hyp : fn_Ln_put N C a p1 h = some res) : ag_Met gc_P l G m_Ln_put d [.ref a, .int (p1)] h (fun v h' => v = some (.int res.1) ∧ h' = res.2) := by
  exact ag_met (by decide) rfl (Nat.le_of_ble_eq_true rfl) (ag_dr (ag_d1 rfl (ag_d1 rfl ag_d0)) (w_Ln_put_0 hC hyp))
def fn_GC_type_0 (N : Nat) (C : Nat × Nat) (a : Nat) (x1 : Int32) (h : ag_H) : Option ((Int32) × ag_H) := (ag_gr h (some (a)) 0 0).bind fun g2 => (ag_rc h (g2) 1).bind fun a4 => (fn_Ln_put N C a4 (x1) h).bind fun r4 => if md_01 (r4.1) = true then (some ((r4.1), r4.2)) else none
def fn_GC_type (N : Nat) (C : Nat × Nat) (a : Nat) (p1 : Int32) (h : ag_H) : Option ((Int32) × ag_H) := fn_GC_type_0 N C a p1 h
theorem w_GC_type_0 {l : Launch} {G : ag_G} {d N : Nat} {C : Nat × Nat} {a : Nat} (hC : ag_cN G = C.1 ∧ ag_cS G = C.2) (hH : 0 ≤ d) {x1 : Int32} {h : ag_H} {res : (Int32) × ag_H} (hyp : fn_GC_type_0 N C a x1 h = some res) : ag_ev gc_P l G m_GC_type (d + 1) (ag_ret gc_P G (fun v h' => v = some (.int res.1) ∧ h' = res.2)) 0 [(0, .ref a), (1, .int (x1))] [] h := by
  unfold fn_GC_type_0 at hyp
  have hc : ag_C1 [(0, .ref a), (1, .int (x1))] := (ag_c1 rfl (ag_c1 rfl ag_c0))
  refine gc_aload_n (r := (some (a))) d_GC_type_0 rfl ?_
  obtain ⟨g2, eg2, hyp⟩ := md_bd hyp
  refine gc_getr (r := (some (a))) d_GC_type_1 fr_GC_10 eg2 ?_
  refine ag_iload_n d_GC_type_4 rfl ?_
  obtain ⟨a4, ea4, hyp⟩ := md_bd hyp
  obtain ⟨r4, er4, hyp⟩ := md_bd hyp
  refine gc_callv (r := (g2)) (as := [.int (x1)]) d_GC_type_5 ml_GC_60 gw_235 rfl sl_Ln_put ea4 (Nat.le_of_ble_eq_true rfl) (w_Ln_put hC (d := d) (by omega) er4) (fun v4 h4 q4 => ?_)
  obtain ⟨rfl, rfl⟩ := q4
  obtain ⟨q5, hyp⟩ := md_ifs hyp
  cases hyp
  exact ag_iret d_GC_type_8 rfl (md_01n q5) ⟨rfl, rfl⟩
theorem w_GC_type {l : Launch} {G : ag_G} {d N : Nat} {C : Nat × Nat} (hC : ag_cN G = C.1 ∧ ag_cS G = C.2) (hH : 0 + 1 ≤ d) {a : Nat} {p1 : Int32} {h : ag_H} {res : (Int32) × ag_H} (hyp : fn_GC_type N C a p1 h = some res) : ag_Met gc_P l G m_GC_type d [.ref a, .int (p1)] h (fun v h' => v = some (.int res.1) ∧ h' = res.2) := by
  obtain ⟨d, rfl, hG⟩ := md_dd hH
  exact ag_met (by decide) rfl (Nat.le_of_ble_eq_true rfl) (ag_dr (ag_d1 rfl (ag_d1 rfl ag_d0)) (w_GC_type_0 hC hG hyp))
def fn_GC_wipe_0 (N : Nat) (C : Nat × Nat) (a : Nat) (h : ag_H) : Option ((Int32) × ag_H) := (ag_gr h (some (a)) 0 0).bind fun g2 => (ag_pf h (ag_rf (g2)) 1 1 .int (.int (Int32.ofInt 0))).bind fun h4 => some (0, h4)
def fn_GC_wipe (N : Nat) (C : Nat × Nat) (a : Nat) (h : ag_H) : Option ((Int32) × ag_H) := fn_GC_wipe_0 N C a h
theorem w_GC_wipe_0 {l : Launch} {G : ag_G} {d N : Nat} {C : Nat × Nat} {a : Nat} (hC : ag_cN G = C.1 ∧ ag_cS G = C.2) {h : ag_H} {res : (Int32) × ag_H} (hyp : fn_GC_wipe_0 N C a h = some res) : ag_ev gc_P l G m_GC_wipe (d) (ag_ret gc_P G (fun v h' => v = none ∧ h' = res.2)) 0 [(0, .ref a)] [] h := by
  unfold fn_GC_wipe_0 at hyp
  have hc : ag_C1 [(0, .ref a)] := (ag_c1 rfl ag_c0)
  refine gc_aload_n (r := (some (a))) d_GC_wipe_0 rfl ?_
  obtain ⟨g2, eg2, hyp⟩ := md_bd hyp
  refine gc_getr (r := (some (a))) d_GC_wipe_1 fr_GC_10 eg2 ?_
  refine ag_iconst d_GC_wipe_4 ?_
  obtain ⟨h4, eh4, hyp⟩ := md_bd hyp
  refine gc_putf (r := (g2)) d_GC_wipe_5 fl_GC_64 (fun q => by cases q) eh4 ?_
  cases hyp
  exact ag_vret d_GC_wipe_8 rfl ⟨rfl, rfl⟩
theorem w_GC_wipe {l : Launch} {G : ag_G} {d N : Nat} {C : Nat × Nat} (hC : ag_cN G = C.1 ∧ ag_cS G = C.2) (hH : 0 ≤ d) {a : Nat} {h : ag_H} {res : (Int32) × ag_H} (hyp : fn_GC_wipe N C a h = some res) : ag_Met gc_P l G m_GC_wipe d [.ref a] h (fun v h' => v = none ∧ h' = res.2) := by
  exact ag_met (by decide) rfl (Nat.le_of_ble_eq_true rfl) (ag_dr (ag_d1 rfl ag_d0) (w_GC_wipe_0 hC hyp))
def fn_AL_clear_27 (N : Nat) (C : Nat × Nat) (a : Nat) : Nat → Option Nat → Int32 → Int32 → ag_H → Option ((Int32) × ag_H)
  | 0, _, _, _, _ => none
  | n + 1, x1, x2, x3, h => if (x2) ≤ (x3) then (some (0, h)) else ((ag_as h (x1) (x3) (none)).bind fun h8 => fn_AL_clear_27 N C a n (x1) (x2) ((x3) + Int32.ofInt (1)) h8)
theorem fe_AL_clear_27 (N : Nat) (C : Nat × Nat) (a : Nat) (n : Nat) (x1 : Option Nat) (x2 : Int32) (x3 : Int32) (h : ag_H) : fn_AL_clear_27 N C a (n + 1) x1 x2 x3 h = (if (x2) ≤ (x3) then (some (0, h)) else ((ag_as h (x1) (x3) (none)).bind fun h8 => fn_AL_clear_27 N C a n (x1) (x2) ((x3) + Int32.ofInt (1)) h8)) := rfl
def fn_AL_clear_0 (N : Nat) (C : Nat × Nat) (a : Nat) (h : ag_H) : Option ((Int32) × ag_H) := (ag_gi h (some (a)) 11 2).bind fun g3 => (ag_pf h (ag_rf (some (a))) 11 2 .int (.int ((g3) + (Int32.ofInt 1)))).bind fun h6 => (ag_gr h6 (some (a)) 11 0).bind fun g8 => (ag_gi h6 (some (a)) 11 1).bind fun g11 => (ag_pf h6 (ag_rf (some (a))) 11 1 .int (.int (Int32.ofInt 0))).bind fun h16 => fn_AL_clear_27 N C a N ((g8)) (g11) (Int32.ofInt 0) h16
def fn_AL_clear (N : Nat) (C : Nat × Nat) (a : Nat) (h : ag_H) : Option ((Int32) × ag_H) := fn_AL_clear_0 N C a h
theorem w_AL_clear_27 {l : Launch} {G : ag_G} {d N : Nat} {C : Nat × Nat} {a : Nat} (hC : ag_cN G = C.1 ∧ ag_cS G = C.2) : ∀ (n : Nat) (res : (Int32) × ag_H) (x1 : Option Nat) (x2 : Int32) (x3 : Int32) (h : ag_H) , fn_AL_clear_27 N C a n x1 x2 x3 h = some res → ag_ev gc_P l G m_AL_clear (d) (ag_ret gc_P G (fun v h' => v = none ∧ h' = res.2)) 27 [(0, .ref a), (1, ag_rf (x1)), (2, .int (x2)), (3, .int (x3))] [] h := by
  intro n
  induction n with
  | zero =>
    intro res x1 x2 x3 h hyp
    cases hyp
  | succ n ih =>
    intro res x1 x2 x3 h hyp
    rw [fe_AL_clear_27] at hyp
    have hc : ag_C1 [(0, .ref a), (1, ag_rf (x1)), (2, .int (x2)), (3, .int (x3))] := (ag_c1 rfl (ag_c1 (ag_cat_rf _) (ag_c1 rfl (ag_c1 rfl ag_c0))))
    refine ag_iload_n d_AL_clear_27 rfl ?_
    refine ag_iload_n d_AL_clear_28 rfl ?_
    refine ag_icmp_ge d_AL_clear_29 rfl (fun q => ?_) (fun q => ?_)
    · replace hyp := md_ifp q hyp
      cases hyp
      exact ag_vret d_AL_clear_42 rfl ⟨rfl, rfl⟩
    · replace hyp := md_ifn q hyp
      refine gc_aload_n (r := (x1)) d_AL_clear_32 rfl ?_
      refine ag_iload_n d_AL_clear_33 rfl ?_
      refine ag_null d_AL_clear_34 ?_
      obtain ⟨h8, eh8, hyp⟩ := md_bd hyp
      refine gc_ast (r := (x1)) (w := (none)) d_AL_clear_35 eh8 ?_
      refine gc_iinc d_AL_clear_36 rfl (by decide) hc ?_
      replace hc := ag_cs (i := 3) (v := .int ((x3) + Int32.ofInt (1))) hc rfl
      refine ag_goto d_AL_clear_39 rfl ?_
      exact ag_dr (ag_d1 rfl (ag_d1 rfl (ag_d1 rfl (ag_d1 rfl ag_d0)))) (ih _ _ _ _ _ hyp)
theorem w_AL_clear_0 {l : Launch} {G : ag_G} {d N : Nat} {C : Nat × Nat} {a : Nat} (hC : ag_cN G = C.1 ∧ ag_cS G = C.2) {h : ag_H} {res : (Int32) × ag_H} (hyp : fn_AL_clear_0 N C a h = some res) : ag_ev gc_P l G m_AL_clear (d) (ag_ret gc_P G (fun v h' => v = none ∧ h' = res.2)) 0 [(0, .ref a)] [] h := by
  unfold fn_AL_clear_0 at hyp
  have hc : ag_C1 [(0, .ref a)] := (ag_c1 rfl ag_c0)
  refine gc_aload_n (r := (some (a))) d_AL_clear_0 rfl ?_
  refine ag_dup d_AL_clear_1 rfl ?_
  obtain ⟨g3, eg3, hyp⟩ := md_bd hyp
  refine gc_geti (r := (some (a))) d_AL_clear_2 fr_AL_63 eg3 ?_
  refine ag_iconst d_AL_clear_5 ?_
  refine ag_iadd d_AL_clear_6 ?_
  obtain ⟨h6, eh6, hyp⟩ := md_bd hyp
  refine gc_putf (r := (some (a))) d_AL_clear_7 fl_AL_63 (fun q => by cases q) eh6 ?_
  refine gc_aload_n (r := (some (a))) d_AL_clear_10 rfl ?_
  obtain ⟨g8, eg8, hyp⟩ := md_bd hyp
  refine gc_getr (r := (some (a))) d_AL_clear_11 fr_AL_9 eg8 ?_
  refine gc_astore0_n (r := (g8)) d_AL_clear_14 (by decide) hc ?_
  replace hc := ag_cs (i := 1) (v := ag_rf (g8)) hc (ag_cat_rf _)
  refine gc_aload_n (r := (some (a))) d_AL_clear_15 rfl ?_
  obtain ⟨g11, eg11, hyp⟩ := md_bd hyp
  refine gc_geti (r := (some (a))) d_AL_clear_16 fr_AL_48 eg11 ?_
  refine gc_istore_n d_AL_clear_19 (by decide) hc ?_
  replace hc := ag_cs (i := 2) (v := .int (g11)) hc rfl
  refine gc_aload_n (r := (some (a))) d_AL_clear_20 rfl ?_
  refine ag_iconst d_AL_clear_21 ?_
  refine ag_dup_x1 d_AL_clear_22 rfl rfl ?_
  obtain ⟨h16, eh16, hyp⟩ := md_bd hyp
  refine gc_putf (r := (some (a))) d_AL_clear_23 fl_AL_48 (fun q => by cases q) eh16 ?_
  refine gc_istore_n d_AL_clear_26 (by decide) hc ?_
  replace hc := ag_cs (i := 3) (v := .int (Int32.ofInt 0)) hc rfl
  exact ag_dr (ag_d1 rfl (ag_d1 rfl (ag_d1 rfl (ag_d1 rfl ag_d0)))) (w_AL_clear_27 hC N _ _ _ _ _ hyp)
theorem w_AL_clear {l : Launch} {G : ag_G} {d N : Nat} {C : Nat × Nat} (hC : ag_cN G = C.1 ∧ ag_cS G = C.2) (hH : 0 ≤ d) {a : Nat} {h : ag_H} {res : (Int32) × ag_H} (hyp : fn_AL_clear N C a h = some res) : ag_Met gc_P l G m_AL_clear d [.ref a] h (fun v h' => v = none ∧ h' = res.2) := by
  exact ag_met (by decide) rfl (Nat.le_of_ble_eq_true rfl) (ag_dr (ag_d1 rfl ag_d0) (w_AL_clear_0 hC hyp))
def fn_GC_clear_0 (N : Nat) (C : Nat × Nat) (a : Nat) (h : ag_H) : Option ((Int32) × ag_H) := (ag_gr h (some (a)) 0 3).bind fun g2 => (ag_gr h (g2) 5 0).bind fun g3 => (ag_rc h (g3) 11).bind fun a4 => (fn_AL_clear N C a4  h).bind fun r4 => some (0, r4.2)
def fn_GC_clear (N : Nat) (C : Nat × Nat) (a : Nat) (h : ag_H) : Option ((Int32) × ag_H) := fn_GC_clear_0 N C a h
theorem w_GC_clear_0 {l : Launch} {G : ag_G} {d N : Nat} {C : Nat × Nat} {a : Nat} (hC : ag_cN G = C.1 ∧ ag_cS G = C.2) (hH : 0 ≤ d) {h : ag_H} {res : (Int32) × ag_H} (hyp : fn_GC_clear_0 N C a h = some res) : ag_ev gc_P l G m_GC_clear (d + 1) (ag_ret gc_P G (fun v h' => v = none ∧ h' = res.2)) 0 [(0, .ref a)] [] h := by
  unfold fn_GC_clear_0 at hyp
  have hc : ag_C1 [(0, .ref a)] := (ag_c1 rfl ag_c0)
  refine gc_aload_n (r := (some (a))) d_GC_clear_0 rfl ?_
  obtain ⟨g2, eg2, hyp⟩ := md_bd hyp
  refine gc_getr (r := (some (a))) d_GC_clear_1 fr_GC_33 eg2 ?_
  obtain ⟨g3, eg3, hyp⟩ := md_bd hyp
  refine gc_getr (r := (g2)) d_GC_clear_4 fr_GC_82 eg3 ?_
  obtain ⟨a4, ea4, hyp⟩ := md_bd hyp
  obtain ⟨r4, er4, hyp⟩ := md_bd hyp
  refine gc_callf (r := (g3)) (as := []) d_GC_clear_7 il_GC_98 ea4 (Nat.le_of_ble_eq_true rfl) (w_AL_clear hC (d := d) (by omega) er4) (fun v4 h4 q4 => ?_)
  obtain ⟨rfl, rfl⟩ := q4
  cases hyp
  exact ag_vret d_GC_clear_12 rfl ⟨rfl, rfl⟩
theorem w_GC_clear {l : Launch} {G : ag_G} {d N : Nat} {C : Nat × Nat} (hC : ag_cN G = C.1 ∧ ag_cS G = C.2) (hH : 0 + 1 ≤ d) {a : Nat} {h : ag_H} {res : (Int32) × ag_H} (hyp : fn_GC_clear N C a h = some res) : ag_Met gc_P l G m_GC_clear d [.ref a] h (fun v h' => v = none ∧ h' = res.2) := by
  obtain ⟨d, rfl, hG⟩ := md_dd hH
  exact ag_met (by decide) rfl (Nat.le_of_ble_eq_true rfl) (ag_dr (ag_d1 rfl ag_d0) (w_GC_clear_0 hC hG hyp))
def fn_GC_limits_22 (N : Nat) (C : Nat × Nat) (a : Nat) (h : ag_H) : Option ((Int32) × ag_H) := if md_01 (Int32.ofInt 0) = true then (some ((Int32.ofInt 0), h)) else none
def fn_GC_limits_0 (N : Nat) (C : Nat × Nat) (a : Nat) (x1 : Int32) (x2 : Int32) (h : ag_H) : Option ((Int32) × ag_H) := if (x1) < (Int32.ofInt 1) then (fn_GC_limits_22 N C a  h) else (if ((Int8.ofInt (30)).toInt32) < (x1) then (fn_GC_limits_22 N C a  h) else (if (x2) < (Int32.ofInt 1) then (fn_GC_limits_22 N C a  h) else (if (x2) ≤ ((Int8.ofInt (12)).toInt32) then ((ag_pf h (ag_rf (some (a))) 0 8 .int (.int (x1))).bind fun h15 => (ag_pf h15 (ag_rf (some (a))) 0 9 .int (.int (x2))).bind fun h18 => if md_01 (Int32.ofInt 1) = true then (some ((Int32.ofInt 1), h18)) else none) else (fn_GC_limits_22 N C a  h))))
def fn_GC_limits (N : Nat) (C : Nat × Nat) (a : Nat) (p1 : Int32) (p2 : Int32) (h : ag_H) : Option ((Int32) × ag_H) := fn_GC_limits_0 N C a p1 p2 h
theorem w_GC_limits_22 {l : Launch} {G : ag_G} {d N : Nat} {C : Nat × Nat} {a : Nat} (hC : ag_cN G = C.1 ∧ ag_cS G = C.2) {h : ag_H} {res : (Int32) × ag_H} (hyp : fn_GC_limits_22 N C a h = some res) : ag_ev gc_P l G m_GC_limits (d) (ag_ret gc_P G (fun v h' => v = some (.int res.1) ∧ h' = res.2)) 22 [(0, .ref a)] [] h := by
  unfold fn_GC_limits_22 at hyp
  have hc : ag_C1 [(0, .ref a)] := (ag_c1 rfl ag_c0)
  refine ag_iconst d_GC_limits_22 ?_
  obtain ⟨q2, hyp⟩ := md_ifs hyp
  cases hyp
  exact ag_iret d_GC_limits_23 rfl (md_01n q2) ⟨rfl, rfl⟩
theorem w_GC_limits_0 {l : Launch} {G : ag_G} {d N : Nat} {C : Nat × Nat} {a : Nat} (hC : ag_cN G = C.1 ∧ ag_cS G = C.2) {x1 : Int32} {x2 : Int32} {h : ag_H} {res : (Int32) × ag_H} (hyp : fn_GC_limits_0 N C a x1 x2 h = some res) : ag_ev gc_P l G m_GC_limits (d) (ag_ret gc_P G (fun v h' => v = some (.int res.1) ∧ h' = res.2)) 0 [(0, .ref a), (1, .int (x1)), (2, .int (x2))] [] h := by
  unfold fn_GC_limits_0 at hyp
  have hc : ag_C1 [(0, .ref a), (1, .int (x1)), (2, .int (x2))] := (ag_c1 rfl (ag_c1 rfl (ag_c1 rfl ag_c0)))
  refine ag_iload_n d_GC_limits_0 rfl ?_
  refine ag_iconst d_GC_limits_1 ?_
  refine ag_icmp_lt d_GC_limits_2 rfl (fun q => ?_) (fun q => ?_)
  · replace hyp := md_ifp q hyp
    exact ag_dr (ag_d1 rfl ag_d0) (w_GC_limits_22 hC hyp)
  · replace hyp := md_ifn q hyp
    refine ag_iload_n d_GC_limits_5 rfl ?_
    refine ag_bipush d_GC_limits_6 ?_
    refine ag_icmp_gt d_GC_limits_8 rfl (fun q => ?_) (fun q => ?_)
    · replace hyp := md_ifp q hyp
      exact ag_dr (ag_d1 rfl ag_d0) (w_GC_limits_22 hC hyp)
    · replace hyp := md_ifn q hyp
      refine ag_iload_n d_GC_limits_11 rfl ?_
      refine ag_iconst d_GC_limits_12 ?_
      refine ag_icmp_lt d_GC_limits_13 rfl (fun q => ?_) (fun q => ?_)
      · replace hyp := md_ifp q hyp
        exact ag_dr (ag_d1 rfl ag_d0) (w_GC_limits_22 hC hyp)
      · replace hyp := md_ifn q hyp
        refine ag_iload_n d_GC_limits_16 rfl ?_
        refine ag_bipush d_GC_limits_17 ?_
        refine ag_icmp_le d_GC_limits_19 rfl (fun q => ?_) (fun q => ?_)
        · replace hyp := md_ifp q hyp
          refine gc_aload_n (r := (some (a))) d_GC_limits_24 rfl ?_
          refine ag_iload_n d_GC_limits_25 rfl ?_
          obtain ⟨h15, eh15, hyp⟩ := md_bd hyp
          refine gc_putf (r := (some (a))) d_GC_limits_26 fl_GC_54 (fun q => by cases q) eh15 ?_
          refine gc_aload_n (r := (some (a))) d_GC_limits_29 rfl ?_
          refine ag_iload_n d_GC_limits_30 rfl ?_
          obtain ⟨h18, eh18, hyp⟩ := md_bd hyp
          refine gc_putf (r := (some (a))) d_GC_limits_31 fl_GC_57 (fun q => by cases q) eh18 ?_
          refine ag_iconst d_GC_limits_34 ?_
          obtain ⟨q20, hyp⟩ := md_ifs hyp
          cases hyp
          exact ag_iret d_GC_limits_35 rfl (md_01n q20) ⟨rfl, rfl⟩
        · replace hyp := md_ifn q hyp
          exact ag_dr (ag_d1 rfl ag_d0) (w_GC_limits_22 hC hyp)
theorem w_GC_limits {l : Launch} {G : ag_G} {d N : Nat} {C : Nat × Nat} (hC : ag_cN G = C.1 ∧ ag_cS G = C.2) (hH : 0 ≤ d) {a : Nat} {p1 : Int32} {p2 : Int32} {h : ag_H} {res : (Int32) × ag_H} (hyp : fn_GC_limits N C a p1 p2 h = some res) : ag_Met gc_P l G m_GC_limits d [.ref a, .int (p1), .int (p2)] h (fun v h' => v = some (.int res.1) ∧ h' = res.2) := by
  exact ag_met (by decide) rfl (Nat.le_of_ble_eq_true rfl) (ag_dr (ag_d1 rfl (ag_d1 rfl (ag_d1 rfl ag_d0))) (w_GC_limits_0 hC hyp))
def fn_GC_latest_0 (N : Nat) (C : Nat × Nat) (a : Nat) (x1 : Int32) (h : ag_H) : Option ((Int32) × ag_H) := if (x1) = (0 : Int32) then ((ag_gr h (some (a)) 0 2).bind fun g19 => (ag_gi h (g19) 3 3).bind fun g20 => some ((g20), h)) else (if (x1) = (1 : Int32) then ((ag_gr h (some (a)) 0 2).bind fun g14 => (ag_gr h (g14) 3 0).bind fun g15 => (ag_gi h (g15) 4 1).bind fun g16 => some ((g16), h)) else (if (x1) = (2 : Int32) then ((ag_gr h (some (a)) 0 2).bind fun g10 => (ag_gi h (g10) 3 4).bind fun g11 => some ((g11), h)) else (if (x1) = (3 : Int32) then ((ag_gr h (some (a)) 0 2).bind fun g6 => (ag_gi h (g6) 3 5).bind fun g7 => some ((g7), h)) else (some ((Int32.ofInt 0), h)))))
def fn_GC_latest (N : Nat) (C : Nat × Nat) (a : Nat) (p1 : Int32) (h : ag_H) : Option ((Int32) × ag_H) := fn_GC_latest_0 N C a p1 h
theorem w_GC_latest_0 {l : Launch} {G : ag_G} {d N : Nat} {C : Nat × Nat} {a : Nat} (hC : ag_cN G = C.1 ∧ ag_cS G = C.2) {x1 : Int32} {h : ag_H} {res : (Int32) × ag_H} (hyp : fn_GC_latest_0 N C a x1 h = some res) : ag_ev gc_P l G m_GC_latest (d) (ag_ret gc_P G (fun v h' => v = some (.int res.1) ∧ h' = res.2)) 0 [(0, .ref a), (1, .int (x1))] [] h := by
  unfold fn_GC_latest_0 at hyp
  have hc : ag_C1 [(0, .ref a), (1, .int (x1))] := (ag_c1 rfl (ag_c1 rfl ag_c0))
  refine ag_iload_n d_GC_latest_0 rfl ?_
  by_cases q0 : (x1) = (0 : Int32)
  · replace hyp := md_ifp q0 hyp
    refine ag_tabIn d_GC_latest_1 (by rw [q0]; decide) (by rw [q0]; decide) (by rw [q0]; rfl) rfl ?_
    refine gc_aload_n (r := (some (a))) d_GC_latest_32 rfl ?_
    obtain ⟨g19, eg19, hyp⟩ := md_bd hyp
    refine gc_getr (r := (some (a))) d_GC_latest_33 fr_GC_26 eg19 ?_
    obtain ⟨g20, eg20, hyp⟩ := md_bd hyp
    refine gc_geti (r := (g19)) d_GC_latest_36 fr_GC_199 eg20 ?_
    cases hyp
    exact ag_iret d_GC_latest_39 rfl rfl ⟨rfl, rfl⟩
  · replace hyp := md_ifn q0 hyp
    by_cases q1 : (x1) = (1 : Int32)
    · replace hyp := md_ifp q1 hyp
      refine ag_tabIn d_GC_latest_1 (by rw [q1]; decide) (by rw [q1]; decide) (by rw [q1]; rfl) rfl ?_
      refine gc_aload_n (r := (some (a))) d_GC_latest_40 rfl ?_
      obtain ⟨g14, eg14, hyp⟩ := md_bd hyp
      refine gc_getr (r := (some (a))) d_GC_latest_41 fr_GC_26 eg14 ?_
      obtain ⟨g15, eg15, hyp⟩ := md_bd hyp
      refine gc_getr (r := (g14)) d_GC_latest_44 fr_GC_202 eg15 ?_
      obtain ⟨g16, eg16, hyp⟩ := md_bd hyp
      refine gc_geti (r := (g15)) d_GC_latest_47 fr_GC_206 eg16 ?_
      cases hyp
      exact ag_iret d_GC_latest_50 rfl rfl ⟨rfl, rfl⟩
    · replace hyp := md_ifn q1 hyp
      by_cases q2 : (x1) = (2 : Int32)
      · replace hyp := md_ifp q2 hyp
        refine ag_tabIn d_GC_latest_1 (by rw [q2]; decide) (by rw [q2]; decide) (by rw [q2]; rfl) rfl ?_
        refine gc_aload_n (r := (some (a))) d_GC_latest_51 rfl ?_
        obtain ⟨g10, eg10, hyp⟩ := md_bd hyp
        refine gc_getr (r := (some (a))) d_GC_latest_52 fr_GC_26 eg10 ?_
        obtain ⟨g11, eg11, hyp⟩ := md_bd hyp
        refine gc_geti (r := (g10)) d_GC_latest_55 fr_GC_210 eg11 ?_
        cases hyp
        exact ag_iret d_GC_latest_58 rfl rfl ⟨rfl, rfl⟩
      · replace hyp := md_ifn q2 hyp
        by_cases q3 : (x1) = (3 : Int32)
        · replace hyp := md_ifp q3 hyp
          refine ag_tabIn d_GC_latest_1 (by rw [q3]; decide) (by rw [q3]; decide) (by rw [q3]; rfl) rfl ?_
          refine gc_aload_n (r := (some (a))) d_GC_latest_59 rfl ?_
          obtain ⟨g6, eg6, hyp⟩ := md_bd hyp
          refine gc_getr (r := (some (a))) d_GC_latest_60 fr_GC_26 eg6 ?_
          obtain ⟨g7, eg7, hyp⟩ := md_bd hyp
          refine gc_geti (r := (g6)) d_GC_latest_63 fr_GC_213 eg7 ?_
          cases hyp
          exact ag_iret d_GC_latest_66 rfl rfl ⟨rfl, rfl⟩
        · replace hyp := md_ifn q3 hyp
          refine ag_tabOut d_GC_latest_1 (by have z0 : (x1).toInt ≠ 0 := ag_ne q0; have z1 : (x1).toInt ≠ 1 := ag_ne q1; have z2 : (x1).toInt ≠ 2 := ag_ne q2; have z3 : (x1).toInt ≠ 3 := ag_ne q3; omega) rfl ?_
          refine ag_iconst d_GC_latest_67 ?_
          cases hyp
          exact ag_iret d_GC_latest_68 rfl rfl ⟨rfl, rfl⟩
theorem w_GC_latest {l : Launch} {G : ag_G} {d N : Nat} {C : Nat × Nat} (hC : ag_cN G = C.1 ∧ ag_cS G = C.2) (hH : 0 ≤ d) {a : Nat} {p1 : Int32} {h : ag_H} {res : (Int32) × ag_H} (hyp : fn_GC_latest N C a p1 h = some res) : ag_Met gc_P l G m_GC_latest d [.ref a, .int (p1)] h (fun v h' => v = some (.int res.1) ∧ h' = res.2) := by
  exact ag_met (by decide) rfl (Nat.le_of_ble_eq_true rfl) (ag_dr (ag_d1 rfl (ag_d1 rfl ag_d0)) (w_GC_latest_0 hC hyp))
def fn_AL_size_0 (N : Nat) (C : Nat × Nat) (a : Nat) (h : ag_H) : Option ((Int32) × ag_H) := (ag_gi h (some (a)) 11 1).bind fun g2 => some ((g2), h)
def fn_AL_size (N : Nat) (C : Nat × Nat) (a : Nat) (h : ag_H) : Option ((Int32) × ag_H) := fn_AL_size_0 N C a h
theorem w_AL_size_0 {l : Launch} {G : ag_G} {d N : Nat} {C : Nat × Nat} {a : Nat} (hC : ag_cN G = C.1 ∧ ag_cS G = C.2) {h : ag_H} {res : (Int32) × ag_H} (hyp : fn_AL_size_0 N C a h = some res) : ag_ev gc_P l G m_AL_size (d) (ag_ret gc_P G (fun v h' => v = some (.int res.1) ∧ h' = res.2)) 0 [(0, .ref a)] [] h := by
  unfold fn_AL_size_0 at hyp
  have hc : ag_C1 [(0, .ref a)] := (ag_c1 rfl ag_c0)
  refine gc_aload_n (r := (some (a))) d_AL_size_0 rfl ?_
  obtain ⟨g2, eg2, hyp⟩ := md_bd hyp
  refine gc_geti (r := (some (a))) d_AL_size_1 fr_AL_48 eg2 ?_
  cases hyp
  exact ag_iret d_AL_size_4 rfl rfl ⟨rfl, rfl⟩
theorem w_AL_size {l : Launch} {G : ag_G} {d N : Nat} {C : Nat × Nat} (hC : ag_cN G = C.1 ∧ ag_cS G = C.2) (hH : 0 ≤ d) {a : Nat} {h : ag_H} {res : (Int32) × ag_H} (hyp : fn_AL_size N C a h = some res) : ag_Met gc_P l G m_AL_size d [.ref a] h (fun v h' => v = some (.int res.1) ∧ h' = res.2) := by
  exact ag_met (by decide) rfl (Nat.le_of_ble_eq_true rfl) (ag_dr (ag_d1 rfl ag_d0) (w_AL_size_0 hC hyp))
def fn_GC_count_0 (N : Nat) (C : Nat × Nat) (a : Nat) (x1 : Int32) (h : ag_H) : Option ((Int32) × ag_H) := if (x1) = (0 : Int32) then ((ag_gr h (some (a)) 0 5).bind fun g27 => (ag_rc h (g27) 11).bind fun a28 => (fn_AL_size N C a28  h).bind fun r28 => some ((r28.1), r28.2)) else (if (x1) = (1 : Int32) then ((ag_gr h (some (a)) 0 4).bind fun g23 => (ag_rc h (g23) 11).bind fun a24 => (fn_AL_size N C a24  h).bind fun r24 => some ((r24.1), r24.2)) else (if (x1) = (2 : Int32) then ((ag_gi h (some (a)) 0 7).bind fun g20 => some ((g20), h)) else (if (x1) = (3 : Int32) then ((ag_gr h (some (a)) 0 6).bind fun g15 => (ag_gr h (g15) 5 0).bind fun g16 => (ag_rc h (g16) 11).bind fun a17 => (fn_AL_size N C a17  h).bind fun r17 => some ((r17.1), r17.2)) else (if (x1) = (4 : Int32) then ((ag_gr h (some (a)) 0 3).bind fun g10 => (ag_gr h (g10) 5 0).bind fun g11 => (ag_rc h (g11) 11).bind fun a12 => (fn_AL_size N C a12  h).bind fun r12 => some ((r12.1), r12.2)) else (if (x1) = (5 : Int32) then ((ag_gr h (some (a)) 0 0).bind fun g6 => (ag_gi h (g6) 1 1).bind fun g7 => some ((g7), h)) else (some ((Int32.ofInt (-1)), h)))))))
def fn_GC_count (N : Nat) (C : Nat × Nat) (a : Nat) (p1 : Int32) (h : ag_H) : Option ((Int32) × ag_H) := fn_GC_count_0 N C a p1 h
theorem w_GC_count_0 {l : Launch} {G : ag_G} {d N : Nat} {C : Nat × Nat} {a : Nat} (hC : ag_cN G = C.1 ∧ ag_cS G = C.2) (hH : 0 ≤ d) {x1 : Int32} {h : ag_H} {res : (Int32) × ag_H} (hyp : fn_GC_count_0 N C a x1 h = some res) : ag_ev gc_P l G m_GC_count (d + 1) (ag_ret gc_P G (fun v h' => v = some (.int res.1) ∧ h' = res.2)) 0 [(0, .ref a), (1, .int (x1))] [] h := by
  unfold fn_GC_count_0 at hyp
  have hc : ag_C1 [(0, .ref a), (1, .int (x1))] := (ag_c1 rfl (ag_c1 rfl ag_c0))
  refine ag_iload_n d_GC_count_0 rfl ?_
  by_cases q0 : (x1) = (0 : Int32)
  · replace hyp := md_ifp q0 hyp
    refine ag_tabIn d_GC_count_1 (by rw [q0]; decide) (by rw [q0]; decide) (by rw [q0]; rfl) rfl ?_
    refine gc_aload_n (r := (some (a))) d_GC_count_40 rfl ?_
    obtain ⟨g27, eg27, hyp⟩ := md_bd hyp
    refine gc_getr (r := (some (a))) d_GC_count_41 fr_GC_44 eg27 ?_
    obtain ⟨a28, ea28, hyp⟩ := md_bd hyp
    obtain ⟨r28, er28, hyp⟩ := md_bd hyp
    refine gc_callf (r := (g27)) (as := []) d_GC_count_44 il_GC_85 ea28 (Nat.le_of_ble_eq_true rfl) (w_AL_size hC (d := d) (by omega) er28) (fun v28 h28 q28 => ?_)
    obtain ⟨rfl, rfl⟩ := q28
    cases hyp
    exact ag_iret d_GC_count_49 rfl rfl ⟨rfl, rfl⟩
  · replace hyp := md_ifn q0 hyp
    by_cases q1 : (x1) = (1 : Int32)
    · replace hyp := md_ifp q1 hyp
      refine ag_tabIn d_GC_count_1 (by rw [q1]; decide) (by rw [q1]; decide) (by rw [q1]; rfl) rfl ?_
      refine gc_aload_n (r := (some (a))) d_GC_count_50 rfl ?_
      obtain ⟨g23, eg23, hyp⟩ := md_bd hyp
      refine gc_getr (r := (some (a))) d_GC_count_51 fr_GC_40 eg23 ?_
      obtain ⟨a24, ea24, hyp⟩ := md_bd hyp
      obtain ⟨r24, er24, hyp⟩ := md_bd hyp
      refine gc_callf (r := (g23)) (as := []) d_GC_count_54 il_GC_85 ea24 (Nat.le_of_ble_eq_true rfl) (w_AL_size hC (d := d) (by omega) er24) (fun v24 h24 q24 => ?_)
      obtain ⟨rfl, rfl⟩ := q24
      cases hyp
      exact ag_iret d_GC_count_59 rfl rfl ⟨rfl, rfl⟩
    · replace hyp := md_ifn q1 hyp
      by_cases q2 : (x1) = (2 : Int32)
      · replace hyp := md_ifp q2 hyp
        refine ag_tabIn d_GC_count_1 (by rw [q2]; decide) (by rw [q2]; decide) (by rw [q2]; rfl) rfl ?_
        refine gc_aload_n (r := (some (a))) d_GC_count_60 rfl ?_
        obtain ⟨g20, eg20, hyp⟩ := md_bd hyp
        refine gc_geti (r := (some (a))) d_GC_count_61 fr_GC_50 eg20 ?_
        cases hyp
        exact ag_iret d_GC_count_64 rfl rfl ⟨rfl, rfl⟩
      · replace hyp := md_ifn q2 hyp
        by_cases q3 : (x1) = (3 : Int32)
        · replace hyp := md_ifp q3 hyp
          refine ag_tabIn d_GC_count_1 (by rw [q3]; decide) (by rw [q3]; decide) (by rw [q3]; rfl) rfl ?_
          refine gc_aload_n (r := (some (a))) d_GC_count_65 rfl ?_
          obtain ⟨g15, eg15, hyp⟩ := md_bd hyp
          refine gc_getr (r := (some (a))) d_GC_count_66 fr_GC_47 eg15 ?_
          obtain ⟨g16, eg16, hyp⟩ := md_bd hyp
          refine gc_getr (r := (g15)) d_GC_count_69 fr_GC_82 eg16 ?_
          obtain ⟨a17, ea17, hyp⟩ := md_bd hyp
          obtain ⟨r17, er17, hyp⟩ := md_bd hyp
          refine gc_callf (r := (g16)) (as := []) d_GC_count_72 il_GC_85 ea17 (Nat.le_of_ble_eq_true rfl) (w_AL_size hC (d := d) (by omega) er17) (fun v17 h17 q17 => ?_)
          obtain ⟨rfl, rfl⟩ := q17
          cases hyp
          exact ag_iret d_GC_count_77 rfl rfl ⟨rfl, rfl⟩
        · replace hyp := md_ifn q3 hyp
          by_cases q4 : (x1) = (4 : Int32)
          · replace hyp := md_ifp q4 hyp
            refine ag_tabIn d_GC_count_1 (by rw [q4]; decide) (by rw [q4]; decide) (by rw [q4]; rfl) rfl ?_
            refine gc_aload_n (r := (some (a))) d_GC_count_78 rfl ?_
            obtain ⟨g10, eg10, hyp⟩ := md_bd hyp
            refine gc_getr (r := (some (a))) d_GC_count_79 fr_GC_33 eg10 ?_
            obtain ⟨g11, eg11, hyp⟩ := md_bd hyp
            refine gc_getr (r := (g10)) d_GC_count_82 fr_GC_82 eg11 ?_
            obtain ⟨a12, ea12, hyp⟩ := md_bd hyp
            obtain ⟨r12, er12, hyp⟩ := md_bd hyp
            refine gc_callf (r := (g11)) (as := []) d_GC_count_85 il_GC_85 ea12 (Nat.le_of_ble_eq_true rfl) (w_AL_size hC (d := d) (by omega) er12) (fun v12 h12 q12 => ?_)
            obtain ⟨rfl, rfl⟩ := q12
            cases hyp
            exact ag_iret d_GC_count_90 rfl rfl ⟨rfl, rfl⟩
          · replace hyp := md_ifn q4 hyp
            by_cases q5 : (x1) = (5 : Int32)
            · replace hyp := md_ifp q5 hyp
              refine ag_tabIn d_GC_count_1 (by rw [q5]; decide) (by rw [q5]; decide) (by rw [q5]; rfl) rfl ?_
              refine gc_aload_n (r := (some (a))) d_GC_count_91 rfl ?_
              obtain ⟨g6, eg6, hyp⟩ := md_bd hyp
              refine gc_getr (r := (some (a))) d_GC_count_92 fr_GC_10 eg6 ?_
              obtain ⟨g7, eg7, hyp⟩ := md_bd hyp
              refine gc_geti (r := (g6)) d_GC_count_95 fr_GC_64 eg7 ?_
              cases hyp
              exact ag_iret d_GC_count_98 rfl rfl ⟨rfl, rfl⟩
            · replace hyp := md_ifn q5 hyp
              refine ag_tabOut d_GC_count_1 (by have z0 : (x1).toInt ≠ 0 := ag_ne q0; have z1 : (x1).toInt ≠ 1 := ag_ne q1; have z2 : (x1).toInt ≠ 2 := ag_ne q2; have z3 : (x1).toInt ≠ 3 := ag_ne q3; have z4 : (x1).toInt ≠ 4 := ag_ne q4; have z5 : (x1).toInt ≠ 5 := ag_ne q5; omega) rfl ?_
              refine ag_iconst d_GC_count_99 ?_
              cases hyp
              exact ag_iret d_GC_count_100 rfl rfl ⟨rfl, rfl⟩
theorem w_GC_count {l : Launch} {G : ag_G} {d N : Nat} {C : Nat × Nat} (hC : ag_cN G = C.1 ∧ ag_cS G = C.2) (hH : 0 + 1 ≤ d) {a : Nat} {p1 : Int32} {h : ag_H} {res : (Int32) × ag_H} (hyp : fn_GC_count N C a p1 h = some res) : ag_Met gc_P l G m_GC_count d [.ref a, .int (p1)] h (fun v h' => v = some (.int res.1) ∧ h' = res.2) := by
  obtain ⟨d, rfl, hG⟩ := md_dd hH
  exact ag_met (by decide) rfl (Nat.le_of_ble_eq_true rfl) (ag_dr (ag_d1 rfl (ag_d1 rfl ag_d0)) (w_GC_count_0 hC hG hyp))
def fn_Ln_sign_5 (N : Nat) (C : Nat × Nat) (a : Nat) : Nat → Int32 → ag_H → Option ((Int32) × ag_H)
  | 0, _, _ => none
  | n + 1, x1, h => (ag_gi h (some (a)) 1 1).bind fun g3 => if (g3) ≤ (x1) then ((ag_gi h (some (a)) 1 1).bind fun g7 => (ag_pf h (ag_rf (some (a))) 1 2 .int (.int (g7))).bind fun h8 => if md_ch (Int32.ofInt 0) = true then (some ((Int32.ofInt 0), h8)) else none) else ((ag_gr h (some (a)) 1 0).bind fun g12 => (ag_ai h 1 (g12)).bind fun p14 => if md_in (x1) p14.1 = true then (if (p14.2 (x1).toNatClampNeg) = ((Int8.ofInt (32)).toInt32) then (fn_Ln_sign_5 N C a n ((x1) + Int32.ofInt (1)) h) else ((ag_pf h (ag_rf (some (a))) 1 2 .int (.int (x1))).bind fun h21 => (ag_gr h21 (some (a)) 1 0).bind fun g23 => (ag_ai h21 1 (g23)).bind fun p25 => if md_in (x1) p25.1 = true then (if md_ch (p25.2 (x1).toNatClampNeg) = true then (some ((p25.2 (x1).toNatClampNeg), h21)) else none) else none)) else none)
theorem fe_Ln_sign_5 (N : Nat) (C : Nat × Nat) (a : Nat) (n : Nat) (x1 : Int32) (h : ag_H) : fn_Ln_sign_5 N C a (n + 1) x1 h = ((ag_gi h (some (a)) 1 1).bind fun g3 => if (g3) ≤ (x1) then ((ag_gi h (some (a)) 1 1).bind fun g7 => (ag_pf h (ag_rf (some (a))) 1 2 .int (.int (g7))).bind fun h8 => if md_ch (Int32.ofInt 0) = true then (some ((Int32.ofInt 0), h8)) else none) else ((ag_gr h (some (a)) 1 0).bind fun g12 => (ag_ai h 1 (g12)).bind fun p14 => if md_in (x1) p14.1 = true then (if (p14.2 (x1).toNatClampNeg) = ((Int8.ofInt (32)).toInt32) then (fn_Ln_sign_5 N C a n ((x1) + Int32.ofInt (1)) h) else ((ag_pf h (ag_rf (some (a))) 1 2 .int (.int (x1))).bind fun h21 => (ag_gr h21 (some (a)) 1 0).bind fun g23 => (ag_ai h21 1 (g23)).bind fun p25 => if md_in (x1) p25.1 = true then (if md_ch (p25.2 (x1).toNatClampNeg) = true then (some ((p25.2 (x1).toNatClampNeg), h21)) else none) else none)) else none)) := rfl
def fn_Ln_sign_0 (N : Nat) (C : Nat × Nat) (a : Nat) (h : ag_H) : Option ((Int32) × ag_H) := (ag_gi h (some (a)) 1 2).bind fun g2 => fn_Ln_sign_5 N C a N (g2) h
def fn_Ln_sign (N : Nat) (C : Nat × Nat) (a : Nat) (h : ag_H) : Option ((Int32) × ag_H) := fn_Ln_sign_0 N C a h
theorem w_Ln_sign_5 {l : Launch} {G : ag_G} {d N : Nat} {C : Nat × Nat} {a : Nat} (hC : ag_cN G = C.1 ∧ ag_cS G = C.2) : ∀ (n : Nat) (res : (Int32) × ag_H) (x1 : Int32) (h : ag_H) , fn_Ln_sign_5 N C a n x1 h = some res → ag_ev gc_P l G m_Ln_sign (d) (ag_ret gc_P G (fun v h' => v = some (.int res.1) ∧ h' = res.2)) 5 [(0, .ref a), (1, .int (x1))] [] h := by
  intro n
  induction n with
  | zero =>
    intro res x1 h hyp
    cases hyp
  | succ n ih =>
    intro res x1 h hyp
    rw [fe_Ln_sign_5] at hyp
    have hc : ag_C1 [(0, .ref a), (1, .int (x1))] := (ag_c1 rfl (ag_c1 rfl ag_c0))
    refine ag_iload_n d_Ln_sign_5 rfl ?_
    refine gc_aload_n (r := (some (a))) d_Ln_sign_6 rfl ?_
    obtain ⟨g3, eg3, hyp⟩ := md_bd hyp
    refine gc_geti (r := (some (a))) d_Ln_sign_7 fr_Ln_15 eg3 ?_
    refine ag_icmp_ge d_Ln_sign_10 rfl (fun q => ?_) (fun q => ?_)
    · replace hyp := md_ifp q hyp
      refine gc_aload_n (r := (some (a))) d_Ln_sign_42 rfl ?_
      refine gc_aload_n (r := (some (a))) d_Ln_sign_43 rfl ?_
      obtain ⟨g7, eg7, hyp⟩ := md_bd hyp
      refine gc_geti (r := (some (a))) d_Ln_sign_44 fr_Ln_15 eg7 ?_
      obtain ⟨h8, eh8, hyp⟩ := md_bd hyp
      refine gc_putf (r := (some (a))) d_Ln_sign_47 fl_Ln_19 (fun q => by cases q) eh8 ?_
      refine ag_iconst d_Ln_sign_50 ?_
      obtain ⟨q10, hyp⟩ := md_ifs hyp
      cases hyp
      exact ag_iret d_Ln_sign_51 rfl (md_chn q10) ⟨rfl, rfl⟩
    · replace hyp := md_ifn q hyp
      refine gc_aload_n (r := (some (a))) d_Ln_sign_13 rfl ?_
      obtain ⟨g12, eg12, hyp⟩ := md_bd hyp
      refine gc_getr (r := (some (a))) d_Ln_sign_14 fr_Ln_9 eg12 ?_
      refine ag_iload_n d_Ln_sign_17 rfl ?_
      obtain ⟨p14, ep14, hyp⟩ := md_bd hyp
      obtain ⟨q14, hyp⟩ := md_ifs hyp
      refine gc_cld (r := (g12)) d_Ln_sign_18 ep14 q14 ?_
      refine ag_bipush d_Ln_sign_19 ?_
      refine ag_icmp_eq d_Ln_sign_21 rfl (fun q => ?_) (fun q => ?_)
      · replace hyp := md_ifp q hyp
        refine gc_iinc d_Ln_sign_36 rfl (by decide) hc ?_
        replace hc := ag_cs (i := 1) (v := .int ((x1) + Int32.ofInt (1))) hc rfl
        refine ag_goto d_Ln_sign_39 rfl ?_
        exact ag_dr (ag_d1 rfl (ag_d1 rfl ag_d0)) (ih _ _ _ hyp)
      · replace hyp := md_ifn q hyp
        refine gc_aload_n (r := (some (a))) d_Ln_sign_24 rfl ?_
        refine ag_iload_n d_Ln_sign_25 rfl ?_
        obtain ⟨h21, eh21, hyp⟩ := md_bd hyp
        refine gc_putf (r := (some (a))) d_Ln_sign_26 fl_Ln_19 (fun q => by cases q) eh21 ?_
        refine gc_aload_n (r := (some (a))) d_Ln_sign_29 rfl ?_
        obtain ⟨g23, eg23, hyp⟩ := md_bd hyp
        refine gc_getr (r := (some (a))) d_Ln_sign_30 fr_Ln_9 eg23 ?_
        refine ag_iload_n d_Ln_sign_33 rfl ?_
        obtain ⟨p25, ep25, hyp⟩ := md_bd hyp
        obtain ⟨q25, hyp⟩ := md_ifs hyp
        refine gc_cld (r := (g23)) d_Ln_sign_34 ep25 q25 ?_
        obtain ⟨q26, hyp⟩ := md_ifs hyp
        cases hyp
        exact ag_iret d_Ln_sign_35 rfl (md_chn q26) ⟨rfl, rfl⟩
theorem w_Ln_sign_0 {l : Launch} {G : ag_G} {d N : Nat} {C : Nat × Nat} {a : Nat} (hC : ag_cN G = C.1 ∧ ag_cS G = C.2) {h : ag_H} {res : (Int32) × ag_H} (hyp : fn_Ln_sign_0 N C a h = some res) : ag_ev gc_P l G m_Ln_sign (d) (ag_ret gc_P G (fun v h' => v = some (.int res.1) ∧ h' = res.2)) 0 [(0, .ref a)] [] h := by
  unfold fn_Ln_sign_0 at hyp
  have hc : ag_C1 [(0, .ref a)] := (ag_c1 rfl ag_c0)
  refine gc_aload_n (r := (some (a))) d_Ln_sign_0 rfl ?_
  obtain ⟨g2, eg2, hyp⟩ := md_bd hyp
  refine gc_geti (r := (some (a))) d_Ln_sign_1 fr_Ln_19 eg2 ?_
  refine gc_istore_n d_Ln_sign_4 (by decide) hc ?_
  replace hc := ag_cs (i := 1) (v := .int (g2)) hc rfl
  exact ag_dr (ag_d1 rfl (ag_d1 rfl ag_d0)) (w_Ln_sign_5 hC N _ _ _ hyp)
theorem w_Ln_sign {l : Launch} {G : ag_G} {d N : Nat} {C : Nat × Nat} (hC : ag_cN G = C.1 ∧ ag_cS G = C.2) (hH : 0 ≤ d) {a : Nat} {h : ag_H} {res : (Int32) × ag_H} (hyp : fn_Ln_sign N C a h = some res) : ag_Met gc_P l G m_Ln_sign d [.ref a] h (fun v h' => v = some (.int res.1) ∧ h' = res.2) := by
  exact ag_met (by decide) rfl (Nat.le_of_ble_eq_true rfl) (ag_dr (ag_d1 rfl ag_d0) (w_Ln_sign_0 hC hyp))
def fn_Ln_takes_0 (N : Nat) (C : Nat × Nat) (a : Nat) (x1 : Int32) (h : ag_H) : Option ((Int32) × ag_H) := (ag_rc h (some (a)) 1).bind fun a2 => (fn_Ln_sign N C a2  h).bind fun r2 => if (r2.1) = (x1) then ((ag_gi r2.2 (some (a)) 1 2).bind fun g7 => (ag_pf r2.2 (ag_rf (some (a))) 1 2 .int (.int ((g7) + (Int32.ofInt 1)))).bind fun h10 => if md_01 (Int32.ofInt 1) = true then (some ((Int32.ofInt 1), h10)) else none) else (if md_01 (Int32.ofInt 0) = true then (some ((Int32.ofInt 0), r2.2)) else none)
def fn_Ln_takes (N : Nat) (C : Nat × Nat) (a : Nat) (p1 : Int32) (h : ag_H) : Option ((Int32) × ag_H) := fn_Ln_takes_0 N C a p1 h
theorem w_Ln_takes_0 {l : Launch} {G : ag_G} {d N : Nat} {C : Nat × Nat} {a : Nat} (hC : ag_cN G = C.1 ∧ ag_cS G = C.2) (hH : 0 ≤ d) {x1 : Int32} {h : ag_H} {res : (Int32) × ag_H} (hyp : fn_Ln_takes_0 N C a x1 h = some res) : ag_ev gc_P l G m_Ln_takes (d + 1) (ag_ret gc_P G (fun v h' => v = some (.int res.1) ∧ h' = res.2)) 0 [(0, .ref a), (1, .int (x1))] [] h := by
  unfold fn_Ln_takes_0 at hyp
  have hc : ag_C1 [(0, .ref a), (1, .int (x1))] := (ag_c1 rfl (ag_c1 rfl ag_c0))
  refine gc_aload_n (r := (some (a))) d_Ln_takes_0 rfl ?_
  obtain ⟨a2, ea2, hyp⟩ := md_bd hyp
  obtain ⟨r2, er2, hyp⟩ := md_bd hyp
  refine gc_callv (r := (some (a))) (as := []) d_Ln_takes_1 ml_Ln_22 gw_299 rfl sl_Ln_sign ea2 (Nat.le_of_ble_eq_true rfl) (w_Ln_sign hC (d := d) (by omega) er2) (fun v2 h2 q2 => ?_)
  obtain ⟨rfl, rfl⟩ := q2
  refine ag_iload_n d_Ln_takes_4 rfl ?_
  refine ag_icmp_eq d_Ln_takes_5 rfl (fun q => ?_) (fun q => ?_)
  · replace hyp := md_ifp q hyp
    refine gc_aload_n (r := (some (a))) d_Ln_takes_10 rfl ?_
    refine ag_dup d_Ln_takes_11 rfl ?_
    obtain ⟨g7, eg7, hyp⟩ := md_bd hyp
    refine gc_geti (r := (some (a))) d_Ln_takes_12 fr_Ln_19 eg7 ?_
    refine ag_iconst d_Ln_takes_15 ?_
    refine ag_iadd d_Ln_takes_16 ?_
    obtain ⟨h10, eh10, hyp⟩ := md_bd hyp
    refine gc_putf (r := (some (a))) d_Ln_takes_17 fl_Ln_19 (fun q => by cases q) eh10 ?_
    refine ag_iconst d_Ln_takes_20 ?_
    obtain ⟨q12, hyp⟩ := md_ifs hyp
    cases hyp
    exact ag_iret d_Ln_takes_21 rfl (md_01n q12) ⟨rfl, rfl⟩
  · replace hyp := md_ifn q hyp
    refine ag_iconst d_Ln_takes_8 ?_
    obtain ⟨q14, hyp⟩ := md_ifs hyp
    cases hyp
    exact ag_iret d_Ln_takes_9 rfl (md_01n q14) ⟨rfl, rfl⟩
theorem w_Ln_takes {l : Launch} {G : ag_G} {d N : Nat} {C : Nat × Nat} (hC : ag_cN G = C.1 ∧ ag_cS G = C.2) (hH : 0 + 1 ≤ d) {a : Nat} {p1 : Int32} {h : ag_H} {res : (Int32) × ag_H} (hyp : fn_Ln_takes N C a p1 h = some res) : ag_Met gc_P l G m_Ln_takes d [.ref a, .int (p1)] h (fun v h' => v = some (.int res.1) ∧ h' = res.2) := by
  obtain ⟨d, rfl, hG⟩ := md_dd hH
  exact ag_met (by decide) rfl (Nat.le_of_ble_eq_true rfl) (ag_dr (ag_d1 rfl (ag_d1 rfl ag_d0)) (w_Ln_takes_0 hC hG hyp))
def fn_Rd_readKind_47 (N : Nat) (C : Nat × Nat) (s0 : Int32) (h : ag_H) : Option ((Int32) × ag_H) := some ((s0), h)
def fn_Rd_readKind_0 (N : Nat) (C : Nat × Nat) (x0 : Option Nat) (h : ag_H) : Option ((Int32) × ag_H) := (ag_rc h (x0) 1).bind fun a3 => (fn_Ln_takes N C a3 ((Int8.ofInt (63)).toInt32) h).bind fun r3 => if (r3.1) = (0) then ((ag_rc r3.2 (x0) 1).bind fun a7 => (fn_Ln_takes N C a7 ((Int8.ofInt (33)).toInt32) r3.2).bind fun r7 => if (r7.1) = (0) then ((ag_rc r7.2 (x0) 1).bind fun a11 => (fn_Ln_takes N C a11 ((Int8.ofInt (43)).toInt32) r7.2).bind fun r11 => if (r11.1) = (0) then ((ag_rc r11.2 (x0) 1).bind fun a15 => (fn_Ln_takes N C a15 ((Int8.ofInt (45)).toInt32) r11.2).bind fun r15 => if (r15.1) = (0) then (fn_Rd_readKind_47 N C (Int32.ofInt 0) r15.2) else (fn_Rd_readKind_47 N C (Int32.ofInt 5) r15.2)) else (some ((Int32.ofInt 4), r11.2))) else (some ((Int32.ofInt 3), r7.2))) else (some ((Int32.ofInt 2), r3.2))
def fn_Rd_readKind (N : Nat) (C : Nat × Nat) (p0 : Option Nat) (h : ag_H) : Option ((Int32) × ag_H) := fn_Rd_readKind_0 N C p0 h
theorem w_Rd_readKind_47 {l : Launch} {G : ag_G} {d N : Nat} {C : Nat × Nat} (hC : ag_cN G = C.1 ∧ ag_cS G = C.2) (hH : 1 ≤ d) {s0 : Int32} {h : ag_H} {res : (Int32) × ag_H} (hyp : fn_Rd_readKind_47 N C s0 h = some res) : ag_ev gc_P l G m_Rd_readKind (d + 1) (ag_ret gc_P G (fun v h' => v = some (.int res.1) ∧ h' = res.2)) 47 [] [.int (s0)] h := by
  unfold fn_Rd_readKind_47 at hyp
  have hc : ag_C1 [] := ag_c0
  cases hyp
  exact ag_iret d_Rd_readKind_47 rfl rfl ⟨rfl, rfl⟩
theorem w_Rd_readKind_0 {l : Launch} {G : ag_G} {d N : Nat} {C : Nat × Nat} (hC : ag_cN G = C.1 ∧ ag_cS G = C.2) (hH : 1 ≤ d) {x0 : Option Nat} {h : ag_H} {res : (Int32) × ag_H} (hyp : fn_Rd_readKind_0 N C x0 h = some res) : ag_ev gc_P l G m_Rd_readKind (d + 1) (ag_ret gc_P G (fun v h' => v = some (.int res.1) ∧ h' = res.2)) 0 [(0, ag_rf (x0))] [] h := by
  unfold fn_Rd_readKind_0 at hyp
  have hc : ag_C1 [(0, ag_rf (x0))] := (ag_c1 (ag_cat_rf _) ag_c0)
  refine gc_aload_n (r := (x0)) d_Rd_readKind_0 rfl ?_
  refine ag_bipush d_Rd_readKind_1 ?_
  obtain ⟨a3, ea3, hyp⟩ := md_bd hyp
  obtain ⟨r3, er3, hyp⟩ := md_bd hyp
  refine gc_callv (r := (x0)) (as := [.int ((Int8.ofInt (63)).toInt32)]) d_Rd_readKind_3 ml_Rd_44 gw_295 rfl sl_Ln_takes ea3 (Nat.le_of_ble_eq_true rfl) (w_Ln_takes hC (d := d) (by omega) er3) (fun v3 h3 q3 => ?_)
  obtain ⟨rfl, rfl⟩ := q3
  refine ag_if_eq d_Rd_readKind_6 rfl (fun q => ?_) (fun q => ?_)
  · replace hyp := md_ifp q hyp
    refine gc_aload_n (r := (x0)) d_Rd_readKind_11 rfl ?_
    refine ag_bipush d_Rd_readKind_12 ?_
    obtain ⟨a7, ea7, hyp⟩ := md_bd hyp
    obtain ⟨r7, er7, hyp⟩ := md_bd hyp
    refine gc_callv (r := (x0)) (as := [.int ((Int8.ofInt (33)).toInt32)]) d_Rd_readKind_14 ml_Rd_44 gw_295 rfl sl_Ln_takes ea7 (Nat.le_of_ble_eq_true rfl) (w_Ln_takes hC (d := d) (by omega) er7) (fun v7 h7 q7 => ?_)
    obtain ⟨rfl, rfl⟩ := q7
    refine ag_if_eq d_Rd_readKind_17 rfl (fun q => ?_) (fun q => ?_)
    · replace hyp := md_ifp q hyp
      refine gc_aload_n (r := (x0)) d_Rd_readKind_22 rfl ?_
      refine ag_bipush d_Rd_readKind_23 ?_
      obtain ⟨a11, ea11, hyp⟩ := md_bd hyp
      obtain ⟨r11, er11, hyp⟩ := md_bd hyp
      refine gc_callv (r := (x0)) (as := [.int ((Int8.ofInt (43)).toInt32)]) d_Rd_readKind_25 ml_Rd_44 gw_295 rfl sl_Ln_takes ea11 (Nat.le_of_ble_eq_true rfl) (w_Ln_takes hC (d := d) (by omega) er11) (fun v11 h11 q11 => ?_)
      obtain ⟨rfl, rfl⟩ := q11
      refine ag_if_eq d_Rd_readKind_28 rfl (fun q => ?_) (fun q => ?_)
      · replace hyp := md_ifp q hyp
        refine gc_aload_n (r := (x0)) d_Rd_readKind_33 rfl ?_
        refine ag_bipush d_Rd_readKind_34 ?_
        obtain ⟨a15, ea15, hyp⟩ := md_bd hyp
        obtain ⟨r15, er15, hyp⟩ := md_bd hyp
        refine gc_callv (r := (x0)) (as := [.int ((Int8.ofInt (45)).toInt32)]) d_Rd_readKind_36 ml_Rd_44 gw_295 rfl sl_Ln_takes ea15 (Nat.le_of_ble_eq_true rfl) (w_Ln_takes hC (d := d) (by omega) er15) (fun v15 h15 q15 => ?_)
        obtain ⟨rfl, rfl⟩ := q15
        refine ag_if_eq d_Rd_readKind_39 rfl (fun q => ?_) (fun q => ?_)
        · replace hyp := md_ifp q hyp
          refine ag_iconst d_Rd_readKind_46 ?_
          exact ag_dr ag_d0 (w_Rd_readKind_47 hC hH hyp)
        · replace hyp := md_ifn q hyp
          refine ag_iconst d_Rd_readKind_42 ?_
          refine ag_goto d_Rd_readKind_43 rfl ?_
          exact ag_dr ag_d0 (w_Rd_readKind_47 hC hH hyp)
      · replace hyp := md_ifn q hyp
        refine ag_iconst d_Rd_readKind_31 ?_
        cases hyp
        exact ag_iret d_Rd_readKind_32 rfl rfl ⟨rfl, rfl⟩
    · replace hyp := md_ifn q hyp
      refine ag_iconst d_Rd_readKind_20 ?_
      cases hyp
      exact ag_iret d_Rd_readKind_21 rfl rfl ⟨rfl, rfl⟩
  · replace hyp := md_ifn q hyp
    refine ag_iconst d_Rd_readKind_9 ?_
    cases hyp
    exact ag_iret d_Rd_readKind_10 rfl rfl ⟨rfl, rfl⟩
theorem w_Rd_readKind {l : Launch} {G : ag_G} {d N : Nat} {C : Nat × Nat} (hC : ag_cN G = C.1 ∧ ag_cS G = C.2) (hH : 1 + 1 ≤ d) {p0 : Option Nat} {h : ag_H} {res : (Int32) × ag_H} (hyp : fn_Rd_readKind N C p0 h = some res) : ag_Met gc_P l G m_Rd_readKind d [ag_rf (p0)] h (fun v h' => v = some (.int res.1) ∧ h' = res.2) := by
  obtain ⟨d, rfl, hG⟩ := md_dd hH
  exact ag_met0 (by decide) rfl (ag_v1 (ag_cat_rf _) ag_v0) (Nat.le_of_ble_eq_true rfl) (ag_dr (ag_d1 rfl ag_d0) (w_Rd_readKind_0 hC hG hyp))
def fn_Rd_isName_17 (N : Nat) (C : Nat × Nat) (s0 : Int32) (h : ag_H) : Option ((Int32) × ag_H) := if md_01 (s0) = true then (some ((s0), h)) else none
def fn_Rd_isName_16 (N : Nat) (C : Nat × Nat) (h : ag_H) : Option ((Int32) × ag_H) := fn_Rd_isName_17 N C (Int32.ofInt 0) h
def fn_Rd_isName_0 (N : Nat) (C : Nat × Nat) (x0 : Int32) (h : ag_H) : Option ((Int32) × ag_H) := if (x0) < ((Int8.ofInt (97)).toInt32) then (fn_Rd_isName_16 N C  h) else (if ((Int8.ofInt (122)).toInt32) < (x0) then (fn_Rd_isName_16 N C  h) else (fn_Rd_isName_17 N C (Int32.ofInt 1) h))
def fn_Rd_isName (N : Nat) (C : Nat × Nat) (p0 : Int32) (h : ag_H) : Option ((Int32) × ag_H) := fn_Rd_isName_0 N C p0 h
theorem w_Rd_isName_17 {l : Launch} {G : ag_G} {d N : Nat} {C : Nat × Nat} (hC : ag_cN G = C.1 ∧ ag_cS G = C.2) {s0 : Int32} {h : ag_H} {res : (Int32) × ag_H} (hyp : fn_Rd_isName_17 N C s0 h = some res) : ag_ev gc_P l G m_Rd_isName (d) (ag_ret gc_P G (fun v h' => v = some (.int res.1) ∧ h' = res.2)) 17 [] [.int (s0)] h := by
  unfold fn_Rd_isName_17 at hyp
  have hc : ag_C1 [] := ag_c0
  obtain ⟨q1, hyp⟩ := md_ifs hyp
  cases hyp
  exact ag_iret d_Rd_isName_17 rfl (md_01n q1) ⟨rfl, rfl⟩
theorem w_Rd_isName_16 {l : Launch} {G : ag_G} {d N : Nat} {C : Nat × Nat} (hC : ag_cN G = C.1 ∧ ag_cS G = C.2) {h : ag_H} {res : (Int32) × ag_H} (hyp : fn_Rd_isName_16 N C h = some res) : ag_ev gc_P l G m_Rd_isName (d) (ag_ret gc_P G (fun v h' => v = some (.int res.1) ∧ h' = res.2)) 16 [] [] h := by
  unfold fn_Rd_isName_16 at hyp
  have hc : ag_C1 [] := ag_c0
  refine ag_iconst d_Rd_isName_16 ?_
  exact ag_dr ag_d0 (w_Rd_isName_17 hC hyp)
theorem w_Rd_isName_0 {l : Launch} {G : ag_G} {d N : Nat} {C : Nat × Nat} (hC : ag_cN G = C.1 ∧ ag_cS G = C.2) {x0 : Int32} {h : ag_H} {res : (Int32) × ag_H} (hyp : fn_Rd_isName_0 N C x0 h = some res) : ag_ev gc_P l G m_Rd_isName (d) (ag_ret gc_P G (fun v h' => v = some (.int res.1) ∧ h' = res.2)) 0 [(0, .int (x0))] [] h := by
  unfold fn_Rd_isName_0 at hyp
  have hc : ag_C1 [(0, .int (x0))] := (ag_c1 rfl ag_c0)
  refine ag_iload_n d_Rd_isName_0 rfl ?_
  refine ag_bipush d_Rd_isName_1 ?_
  refine ag_icmp_lt d_Rd_isName_3 rfl (fun q => ?_) (fun q => ?_)
  · replace hyp := md_ifp q hyp
    exact ag_dr ag_d0 (w_Rd_isName_16 hC hyp)
  · replace hyp := md_ifn q hyp
    refine ag_iload_n d_Rd_isName_6 rfl ?_
    refine ag_bipush d_Rd_isName_7 ?_
    refine ag_icmp_gt d_Rd_isName_9 rfl (fun q => ?_) (fun q => ?_)
    · replace hyp := md_ifp q hyp
      exact ag_dr ag_d0 (w_Rd_isName_16 hC hyp)
    · replace hyp := md_ifn q hyp
      refine ag_iconst d_Rd_isName_12 ?_
      refine ag_goto d_Rd_isName_13 rfl ?_
      exact ag_dr ag_d0 (w_Rd_isName_17 hC hyp)
theorem w_Rd_isName {l : Launch} {G : ag_G} {d N : Nat} {C : Nat × Nat} (hC : ag_cN G = C.1 ∧ ag_cS G = C.2) (hH : 0 ≤ d) {p0 : Int32} {h : ag_H} {res : (Int32) × ag_H} (hyp : fn_Rd_isName N C p0 h = some res) : ag_Met gc_P l G m_Rd_isName d [.int (p0)] h (fun v h' => v = some (.int res.1) ∧ h' = res.2) := by
  exact ag_met (by decide) rfl (Nat.le_of_ble_eq_true rfl) (ag_dr (ag_d1 rfl ag_d0) (w_Rd_isName_0 hC hyp))
def fn_At_init_0 (N : Nat) (C : Nat × Nat) (a : Nat) (x1 : Int32) (x2 : Int32) (x3 : Int32) (x4 : Int32) (h : ag_H) : Option ((Int32) × ag_H) := (ag_pf h (ag_rf (some (a))) 6 0 .int (.int (x1))).bind fun h5 => (ag_pf h5 (ag_rf (some (a))) 6 1 .int (.int (x2))).bind fun h8 => (ag_pf h8 (ag_rf (some (a))) 6 2 .int (.int (x3))).bind fun h11 => (ag_pf h11 (ag_rf (some (a))) 6 3 .int (.int (x4))).bind fun h14 => some (0, h14)
def fn_At_init (N : Nat) (C : Nat × Nat) (a : Nat) (p1 : Int32) (p2 : Int32) (p3 : Int32) (p4 : Int32) (h : ag_H) : Option ((Int32) × ag_H) := fn_At_init_0 N C a p1 p2 p3 p4 h
theorem w_At_init_0 {l : Launch} {G : ag_G} {d N : Nat} {C : Nat × Nat} {a : Nat} (hC : ag_cN G = C.1 ∧ ag_cS G = C.2) {x1 : Int32} {x2 : Int32} {x3 : Int32} {x4 : Int32} {h : ag_H} {res : (Int32) × ag_H} (hyp : fn_At_init_0 N C a x1 x2 x3 x4 h = some res) : ag_ev gc_P l G m_At_init (d) (ag_ret gc_P G (fun v h' => v = none ∧ h' = res.2)) 0 [(0, .ref a), (1, .int (x1)), (2, .int (x2)), (3, .int (x3)), (4, .int (x4))] [] h := by
  unfold fn_At_init_0 at hyp
  have hc : ag_C1 [(0, .ref a), (1, .int (x1)), (2, .int (x2)), (3, .int (x3)), (4, .int (x4))] := (ag_c1 rfl (ag_c1 rfl (ag_c1 rfl (ag_c1 rfl (ag_c1 rfl ag_c0)))))
  refine gc_aload_n (r := (some (a))) d_At_init_0 rfl ?_
  refine ag_obji (a := a) d_At_init_1 gw_314 gw_34 gw_35 (Nat.le_of_ble_eq_true rfl) ?_
  refine gc_aload_n (r := (some (a))) d_At_init_4 rfl ?_
  refine ag_iload_n d_At_init_5 rfl ?_
  obtain ⟨h5, eh5, hyp⟩ := md_bd hyp
  refine gc_putf (r := (some (a))) d_At_init_6 fl_At_9 (fun _ => rfl) eh5 ?_
  refine gc_aload_n (r := (some (a))) d_At_init_9 rfl ?_
  refine ag_iload_n d_At_init_10 rfl ?_
  obtain ⟨h8, eh8, hyp⟩ := md_bd hyp
  refine gc_putf (r := (some (a))) d_At_init_11 fl_At_15 (fun _ => rfl) eh8 ?_
  refine gc_aload_n (r := (some (a))) d_At_init_14 rfl ?_
  refine ag_iload_n d_At_init_15 rfl ?_
  obtain ⟨h11, eh11, hyp⟩ := md_bd hyp
  refine gc_putf (r := (some (a))) d_At_init_16 fl_At_18 (fun _ => rfl) eh11 ?_
  refine gc_aload_n (r := (some (a))) d_At_init_19 rfl ?_
  refine ag_iload d_At_init_20 rfl ?_
  obtain ⟨h14, eh14, hyp⟩ := md_bd hyp
  refine gc_putf (r := (some (a))) d_At_init_22 fl_At_21 (fun _ => rfl) eh14 ?_
  cases hyp
  exact ag_vret d_At_init_25 rfl ⟨rfl, rfl⟩
theorem w_At_init {l : Launch} {G : ag_G} {d N : Nat} {C : Nat × Nat} (hC : ag_cN G = C.1 ∧ ag_cS G = C.2) (hH : 0 ≤ d) {a : Nat} {p1 : Int32} {p2 : Int32} {p3 : Int32} {p4 : Int32} {h : ag_H} {res : (Int32) × ag_H} (hyp : fn_At_init N C a p1 p2 p3 p4 h = some res) : ag_Met gc_P l G m_At_init d [.ref a, .int (p1), .int (p2), .int (p3), .int (p4)] h (fun v h' => v = none ∧ h' = res.2) := by
  exact ag_met (by decide) rfl (Nat.le_of_ble_eq_true rfl) (ag_dr (ag_d1 rfl (ag_d1 rfl (ag_d1 rfl (ag_d1 rfl (ag_d1 rfl ag_d0))))) (w_At_init_0 hC hyp))
def fn_Rd_isVariable_17 (N : Nat) (C : Nat × Nat) (s0 : Int32) (h : ag_H) : Option ((Int32) × ag_H) := if md_01 (s0) = true then (some ((s0), h)) else none
def fn_Rd_isVariable_16 (N : Nat) (C : Nat × Nat) (h : ag_H) : Option ((Int32) × ag_H) := fn_Rd_isVariable_17 N C (Int32.ofInt 0) h
def fn_Rd_isVariable_0 (N : Nat) (C : Nat × Nat) (x0 : Int32) (h : ag_H) : Option ((Int32) × ag_H) := if (x0) < ((Int8.ofInt (65)).toInt32) then (fn_Rd_isVariable_16 N C  h) else (if ((Int8.ofInt (73)).toInt32) ≤ (x0) then (fn_Rd_isVariable_16 N C  h) else (fn_Rd_isVariable_17 N C (Int32.ofInt 1) h))
def fn_Rd_isVariable (N : Nat) (C : Nat × Nat) (p0 : Int32) (h : ag_H) : Option ((Int32) × ag_H) := fn_Rd_isVariable_0 N C p0 h
theorem w_Rd_isVariable_17 {l : Launch} {G : ag_G} {d N : Nat} {C : Nat × Nat} (hC : ag_cN G = C.1 ∧ ag_cS G = C.2) {s0 : Int32} {h : ag_H} {res : (Int32) × ag_H} (hyp : fn_Rd_isVariable_17 N C s0 h = some res) : ag_ev gc_P l G m_Rd_isVariable (d) (ag_ret gc_P G (fun v h' => v = some (.int res.1) ∧ h' = res.2)) 17 [] [.int (s0)] h := by
  unfold fn_Rd_isVariable_17 at hyp
  have hc : ag_C1 [] := ag_c0
  obtain ⟨q1, hyp⟩ := md_ifs hyp
  cases hyp
  exact ag_iret d_Rd_isVariable_17 rfl (md_01n q1) ⟨rfl, rfl⟩
theorem w_Rd_isVariable_16 {l : Launch} {G : ag_G} {d N : Nat} {C : Nat × Nat} (hC : ag_cN G = C.1 ∧ ag_cS G = C.2) {h : ag_H} {res : (Int32) × ag_H} (hyp : fn_Rd_isVariable_16 N C h = some res) : ag_ev gc_P l G m_Rd_isVariable (d) (ag_ret gc_P G (fun v h' => v = some (.int res.1) ∧ h' = res.2)) 16 [] [] h := by
  unfold fn_Rd_isVariable_16 at hyp
  have hc : ag_C1 [] := ag_c0
  refine ag_iconst d_Rd_isVariable_16 ?_
  exact ag_dr ag_d0 (w_Rd_isVariable_17 hC hyp)
theorem w_Rd_isVariable_0 {l : Launch} {G : ag_G} {d N : Nat} {C : Nat × Nat} (hC : ag_cN G = C.1 ∧ ag_cS G = C.2) {x0 : Int32} {h : ag_H} {res : (Int32) × ag_H} (hyp : fn_Rd_isVariable_0 N C x0 h = some res) : ag_ev gc_P l G m_Rd_isVariable (d) (ag_ret gc_P G (fun v h' => v = some (.int res.1) ∧ h' = res.2)) 0 [(0, .int (x0))] [] h := by
  unfold fn_Rd_isVariable_0 at hyp
  have hc : ag_C1 [(0, .int (x0))] := (ag_c1 rfl ag_c0)
  refine ag_iload_n d_Rd_isVariable_0 rfl ?_
  refine ag_bipush d_Rd_isVariable_1 ?_
  refine ag_icmp_lt d_Rd_isVariable_3 rfl (fun q => ?_) (fun q => ?_)
  · replace hyp := md_ifp q hyp
    exact ag_dr ag_d0 (w_Rd_isVariable_16 hC hyp)
  · replace hyp := md_ifn q hyp
    refine ag_iload_n d_Rd_isVariable_6 rfl ?_
    refine ag_bipush d_Rd_isVariable_7 ?_
    refine ag_icmp_ge d_Rd_isVariable_9 rfl (fun q => ?_) (fun q => ?_)
    · replace hyp := md_ifp q hyp
      exact ag_dr ag_d0 (w_Rd_isVariable_16 hC hyp)
    · replace hyp := md_ifn q hyp
      refine ag_iconst d_Rd_isVariable_12 ?_
      refine ag_goto d_Rd_isVariable_13 rfl ?_
      exact ag_dr ag_d0 (w_Rd_isVariable_17 hC hyp)
theorem w_Rd_isVariable {l : Launch} {G : ag_G} {d N : Nat} {C : Nat × Nat} (hC : ag_cN G = C.1 ∧ ag_cS G = C.2) (hH : 0 ≤ d) {p0 : Int32} {h : ag_H} {res : (Int32) × ag_H} (hyp : fn_Rd_isVariable N C p0 h = some res) : ag_Met gc_P l G m_Rd_isVariable d [.int (p0)] h (fun v h' => v = some (.int res.1) ∧ h' = res.2) := by
  exact ag_met (by decide) rfl (Nat.le_of_ble_eq_true rfl) (ag_dr (ag_d1 rfl ag_d0) (w_Rd_isVariable_0 hC hyp))
