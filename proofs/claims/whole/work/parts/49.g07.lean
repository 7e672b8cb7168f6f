/-! GC_authorize, GC_fact, Tk_tell, Lk_tell, GC_token -/
def fn_GC_authorize_0 (N : Nat) (C : Nat × Nat) (a : Nat) (x1 : Int32) (x2 : Int32) (h : ag_H) : Option ((Int32 ⊕ Nat) × ag_H) := (ag_rc h (some (a)) 0).bind fun a3 => (fn_GC_isToken N C a3 (x1) h).bind fun r3 => if (r3.1) = (0) then (if r3.2.1 + 1 ≤ C.1 ∧ r3.2.2.1 + 6 ≤ C.2 then (some (.inr r3.2.1, ag_nw r3.2 6 (.inr (14, [])))) else none) else ((fn_GC_isRoot N C (x2) r3.2).bind fun r6 => if (r6.1) = (0) then (if r6.2.1 + 1 ≤ C.1 ∧ r6.2.2.1 + 6 ≤ C.2 then (some (.inr r6.2.1, ag_nw r6.2 6 (.inr (12, [])))) else none) else ((ag_gr r6.2 (some (a)) 0 5).bind fun g9 => (ag_rc r6.2 (g9) 11).bind fun a11 => (fn_AL_get N C a11 (x1) r6.2).bind fun r11 => if ag_ck r11.2 (r11.1) 8 = true then ((ag_gr r11.2 (some (a)) 0 2).bind fun g15 => (ag_gi r11.2 (some (a)) 0 8).bind fun g17 => (ag_rc r11.2 (g15) 3).bind fun a18 => (fn_Jg_begin N C a18 (g17) r11.2).bind fun r18 => (ag_rc r18.2 ((r11.1)) 8).bind fun a21 => (fn_Tk_isRightFor N C a21 (x2) r18.2).bind fun r21 => if (r21.1) = (0) then ((ag_gr r21.2 (some (a)) 0 2).bind fun g45 => (ag_rc r21.2 (g45) 3).bind fun a47 => (fn_Jg_end N C a47 (Int32.ofInt (-1)) r21.2).bind fun r47 => some (.inl (r47.1), r47.2)) else ((ag_rc r21.2 (some (a)) 0).bind fun a25 => (fn_GC_layOut N C a25 ((r11.1)) r21.2).bind fun r25 => (ag_gr r25.2 (some (a)) 0 2).bind fun g27 => (ag_gi r25.2 (some (a)) 0 9).bind fun g29 => (ag_rc r25.2 (g27) 3).bind fun a30 => (fn_Jg_settle N C a30 (g29) r25.2).bind fun r30 => if (r30.1) = (0) then ((ag_gr r30.2 (some (a)) 0 2).bind fun g40 => (ag_rc r30.2 (g40) 3).bind fun a42 => (fn_Jg_end N C a42 ((Int8.ofInt (-2)).toInt32) r30.2).bind fun r42 => some (.inl (r42.1), r42.2)) else ((ag_gr r30.2 (some (a)) 0 2).bind fun g33 => (ag_gr r30.2 (some (a)) 0 2).bind fun g35 => (ag_rc r30.2 (g35) 3).bind fun a36 => (fn_Jg_verdict N C a36  r30.2).bind fun r36 => (ag_rc r36.2 (g33) 3).bind fun a37 => (fn_Jg_end N C a37 (r36.1) r36.2).bind fun r37 => some (.inl (r37.1), r37.2)))) else none))
def fn_GC_authorize (N : Nat) (C : Nat × Nat) (a : Nat) (p1 : Int32) (p2 : Int32) (h : ag_H) : Option ((Int32 ⊕ Nat) × ag_H) := fn_GC_authorize_0 N C a p1 p2 h
theorem w_GC_authorize_0 {l : Launch} {G : ag_G} {d N : Nat} {C : Nat × Nat} {a : Nat} (hC : ag_cN G = C.1 ∧ ag_cS G = C.2) (htr : ∀ e : Env, l.admits e → e.platform.stackTraces = false) (hH : 18 ≤ d) {x1 : Int32} {x2 : Int32} {h : ag_H} {res : (Int32 ⊕ Nat) × ag_H} (hyp : fn_GC_authorize_0 N C a x1 x2 h = some res) : ag_ev gc_P l G m_GC_authorize (d + 1) (ag_out gc_P G res.1 res.2) 0 [(0, .ref a), (1, .int (x1)), (2, .int (x2))] [] h := by
  unfold fn_GC_authorize_0 at hyp
  have hc : ag_C1 [(0, .ref a), (1, .int (x1)), (2, .int (x2))] := (ag_c1 rfl (ag_c1 rfl (ag_c1 rfl ag_c0)))
  refine gc_aload_n (r := (some (a))) d_GC_authorize_0 rfl ?_
  refine ag_iload_n d_GC_authorize_1 rfl ?_
  obtain ⟨a3, ea3, hyp⟩ := md_bd hyp
  obtain ⟨r3, er3, hyp⟩ := md_bd hyp
  refine gc_callv (r := (some (a))) (as := [.int (x1)]) d_GC_authorize_2 ml_GC_112 gw_690 rfl sl_GC_isToken ea3 (Nat.le_of_ble_eq_true rfl) (w_GC_isToken hC (d := d) (by omega) er3) (fun v3 h3 q3 => ?_)
  obtain ⟨rfl, rfl⟩ := q3
  refine ag_if_ne d_GC_authorize_5 rfl (fun q => ?_) (fun q => ?_)
  · replace hyp := md_ifn q hyp
    refine ag_iload_n d_GC_authorize_16 rfl ?_
    obtain ⟨r6, er6, hyp⟩ := md_bd hyp
    refine ag_calls (as := [.int (x2)]) d_GC_authorize_17 ml_GC_101 gw_608 (Nat.le_of_ble_eq_true rfl) (w_GC_isRoot hC (d := d) (by omega) er6) (fun v6 h6 q6 => ?_)
    obtain ⟨rfl, rfl⟩ := q6
    refine ag_if_ne d_GC_authorize_20 rfl (fun q => ?_) (fun q => ?_)
    · replace hyp := md_ifn q hyp
      refine gc_aload_n (r := (some (a))) d_GC_authorize_31 rfl ?_
      obtain ⟨g9, eg9, hyp⟩ := md_bd hyp
      refine gc_getr (r := (some (a))) d_GC_authorize_32 fr_GC_44 eg9 ?_
      refine ag_iload_n d_GC_authorize_35 rfl ?_
      obtain ⟨a11, ea11, hyp⟩ := md_bd hyp
      obtain ⟨r11, er11, hyp⟩ := md_bd hyp
      refine gc_callf (r := (g9)) (as := [.int (x1)]) d_GC_authorize_36 il_GC_118 ea11 (Nat.le_of_ble_eq_true rfl) (w_AL_get hC (d := d) (by omega) er11) (fun v11 h11 q11 => ?_)
      obtain ⟨rfl, rfl⟩ := q11
      obtain ⟨q12, hyp⟩ := md_ifs hyp
      refine gc_cast (r := (r11.1)) d_GC_authorize_41 gw_610 rfl q12 ?_
      refine gc_astore0_n (r := (r11.1)) d_GC_authorize_44 (by decide) hc ?_
      replace hc := ag_cs (i := 3) (v := ag_rf (r11.1)) hc (ag_cat_rf _)
      refine gc_aload_n (r := (some (a))) d_GC_authorize_45 rfl ?_
      obtain ⟨g15, eg15, hyp⟩ := md_bd hyp
      refine gc_getr (r := (some (a))) d_GC_authorize_46 fr_GC_26 eg15 ?_
      refine gc_aload_n (r := (some (a))) d_GC_authorize_49 rfl ?_
      obtain ⟨g17, eg17, hyp⟩ := md_bd hyp
      refine gc_geti (r := (some (a))) d_GC_authorize_50 fr_GC_54 eg17 ?_
      obtain ⟨a18, ea18, hyp⟩ := md_bd hyp
      obtain ⟨r18, er18, hyp⟩ := md_bd hyp
      refine gc_callv (r := (g15)) (as := [.int (g17)]) d_GC_authorize_53 ml_GC_179 gw_809 rfl sl_Jg_begin ea18 (Nat.le_of_ble_eq_true rfl) (w_Jg_begin hC (d := d) (by omega) er18) (fun v18 h18 q18 => ?_)
      obtain ⟨rfl, rfl⟩ := q18
      refine gc_aload_n (r := ((r11.1))) d_GC_authorize_56 rfl ?_
      refine ag_iload_n d_GC_authorize_57 rfl ?_
      obtain ⟨a21, ea21, hyp⟩ := md_bd hyp
      obtain ⟨r21, er21, hyp⟩ := md_bd hyp
      refine gc_callv (r := ((r11.1))) (as := [.int (x2)]) d_GC_authorize_58 ml_GC_182 gw_817 rfl sl_Tk_isRightFor ea21 (Nat.le_of_ble_eq_true rfl) (w_Tk_isRightFor hC (d := d) (by omega) er21) (fun v21 h21 q21 => ?_)
      obtain ⟨rfl, rfl⟩ := q21
      refine ag_if_ne d_GC_authorize_61 rfl (fun q => ?_) (fun q => ?_)
      · replace hyp := md_ifn q hyp
        refine gc_aload_n (r := (some (a))) d_GC_authorize_73 rfl ?_
        refine gc_aload_n (r := ((r11.1))) d_GC_authorize_74 rfl ?_
        obtain ⟨a25, ea25, hyp⟩ := md_bd hyp
        obtain ⟨r25, er25, hyp⟩ := md_bd hyp
        refine gc_callv (r := (some (a))) (as := [ag_rf ((r11.1))]) d_GC_authorize_75 ml_GC_189 gw_837 rfl sl_GC_layOut ea25 (Nat.le_of_ble_eq_true rfl) (w_GC_layOut hC (d := d) (by omega) er25) (fun v25 h25 q25 => ?_)
        obtain ⟨rfl, rfl⟩ := q25
        refine gc_aload_n (r := (some (a))) d_GC_authorize_78 rfl ?_
        obtain ⟨g27, eg27, hyp⟩ := md_bd hyp
        refine gc_getr (r := (some (a))) d_GC_authorize_79 fr_GC_26 eg27 ?_
        refine gc_aload_n (r := (some (a))) d_GC_authorize_82 rfl ?_
        obtain ⟨g29, eg29, hyp⟩ := md_bd hyp
        refine gc_geti (r := (some (a))) d_GC_authorize_83 fr_GC_57 eg29 ?_
        obtain ⟨a30, ea30, hyp⟩ := md_bd hyp
        obtain ⟨r30, er30, hyp⟩ := md_bd hyp
        refine gc_callv (r := (g27)) (as := [.int (g29)]) d_GC_authorize_86 ml_GC_193 gw_840 rfl sl_Jg_settle ea30 (Nat.le_of_ble_eq_true rfl) (w_Jg_settle hC (d := d) (by omega) er30) (fun v30 h30 q30 => ?_)
        obtain ⟨rfl, rfl⟩ := q30
        refine ag_if_ne d_GC_authorize_89 rfl (fun q => ?_) (fun q => ?_)
        · replace hyp := md_ifn q hyp
          refine gc_aload_n (r := (some (a))) d_GC_authorize_102 rfl ?_
          obtain ⟨g33, eg33, hyp⟩ := md_bd hyp
          refine gc_getr (r := (some (a))) d_GC_authorize_103 fr_GC_26 eg33 ?_
          refine gc_aload_n (r := (some (a))) d_GC_authorize_106 rfl ?_
          obtain ⟨g35, eg35, hyp⟩ := md_bd hyp
          refine gc_getr (r := (some (a))) d_GC_authorize_107 fr_GC_26 eg35 ?_
          obtain ⟨a36, ea36, hyp⟩ := md_bd hyp
          obtain ⟨r36, er36, hyp⟩ := md_bd hyp
          refine gc_callv (r := (g35)) (as := []) d_GC_authorize_110 ml_GC_196 gw_902 rfl sl_Jg_verdict ea36 (ag_w9 (ag_v1 (ag_cat_rf _) ag_v0) (Nat.le_of_ble_eq_true rfl)) (w_Jg_verdict hC (d := d) (by omega) er36) (fun v36 h36 q36 => ?_)
          obtain ⟨rfl, rfl⟩ := q36
          obtain ⟨a37, ea37, hyp⟩ := md_bd hyp
          obtain ⟨r37, er37, hyp⟩ := md_bd hyp
          refine gc_callv (r := (g33)) (as := [.int (r36.1)]) d_GC_authorize_113 ml_GC_185 gw_825 rfl sl_Jg_end ea37 (Nat.le_of_ble_eq_true rfl) (w_Jg_end hC (d := d) (by omega) er37) (fun v37 h37 q37 => ?_)
          obtain ⟨rfl, rfl⟩ := q37
          cases hyp
          exact ag_iret d_GC_authorize_116 rfl rfl ⟨rfl, rfl⟩
        · replace hyp := md_ifp q hyp
          refine gc_aload_n (r := (some (a))) d_GC_authorize_92 rfl ?_
          obtain ⟨g40, eg40, hyp⟩ := md_bd hyp
          refine gc_getr (r := (some (a))) d_GC_authorize_93 fr_GC_26 eg40 ?_
          refine ag_bipush d_GC_authorize_96 ?_
          obtain ⟨a42, ea42, hyp⟩ := md_bd hyp
          obtain ⟨r42, er42, hyp⟩ := md_bd hyp
          refine gc_callv (r := (g40)) (as := [.int ((Int8.ofInt (-2)).toInt32)]) d_GC_authorize_98 ml_GC_185 gw_825 rfl sl_Jg_end ea42 (Nat.le_of_ble_eq_true rfl) (w_Jg_end hC (d := d) (by omega) er42) (fun v42 h42 q42 => ?_)
          obtain ⟨rfl, rfl⟩ := q42
          cases hyp
          exact ag_iret d_GC_authorize_101 rfl rfl ⟨rfl, rfl⟩
      · replace hyp := md_ifp q hyp
        refine gc_aload_n (r := (some (a))) d_GC_authorize_64 rfl ?_
        obtain ⟨g45, eg45, hyp⟩ := md_bd hyp
        refine gc_getr (r := (some (a))) d_GC_authorize_65 fr_GC_26 eg45 ?_
        refine ag_iconst d_GC_authorize_68 ?_
        obtain ⟨a47, ea47, hyp⟩ := md_bd hyp
        obtain ⟨r47, er47, hyp⟩ := md_bd hyp
        refine gc_callv (r := (g45)) (as := [.int (Int32.ofInt (-1))]) d_GC_authorize_69 ml_GC_185 gw_825 rfl sl_Jg_end ea47 (Nat.le_of_ble_eq_true rfl) (w_Jg_end hC (d := d) (by omega) er47) (fun v47 h47 q47 => ?_)
        obtain ⟨rfl, rfl⟩ := q47
        cases hyp
        exact ag_iret d_GC_authorize_72 rfl rfl ⟨rfl, rfl⟩
    · replace hyp := md_ifp q hyp
      obtain ⟨q49, hyp⟩ := md_ifs hyp
      cases hyp
      exact ag_throw (ci := 12) (names := gc_sup) d_GC_authorize_23 d_GC_authorize_26 d_GC_authorize_27 d_GC_authorize_30 rfl gw_493 gw_494 gw_20 rfl (by decide +kernel) (by decide +kernel) xw_GC_73 (by decide) htr (Nat.le_of_ble_eq_true rfl) (by rw [hC.1]; exact q49.1) (by rw [hC.2]; exact q49.2) ⟨rfl, rfl⟩
  · replace hyp := md_ifp q hyp
    obtain ⟨q50, hyp⟩ := md_ifs hyp
    cases hyp
    exact ag_throw (ci := 14) (names := gc_sup) d_GC_authorize_8 d_GC_authorize_11 d_GC_authorize_12 d_GC_authorize_15 rfl gw_692 gw_693 gw_25 rfl (by decide +kernel) (by decide +kernel) xw_GC_117 (by decide) htr (Nat.le_of_ble_eq_true rfl) (by rw [hC.1]; exact q50.1) (by rw [hC.2]; exact q50.2) ⟨rfl, rfl⟩
theorem w_GC_authorize {l : Launch} {G : ag_G} {d N : Nat} {C : Nat × Nat} (hC : ag_cN G = C.1 ∧ ag_cS G = C.2) (htr : ∀ e : Env, l.admits e → e.platform.stackTraces = false) (hH : 18 + 1 ≤ d) {a : Nat} {p1 : Int32} {p2 : Int32} {h : ag_H} {x : Int32} {h' : ag_H} (hyp : fn_GC_authorize N C a p1 p2 h = some (.inl x, h')) : ag_Met gc_P l G m_GC_authorize d [.ref a, .int (p1), .int (p2)] h (fun v h'' => v = some (.int x) ∧ h'' = h') := by
  obtain ⟨d, rfl, hG⟩ := md_dd hH
  exact ag_met (by decide) rfl (Nat.le_of_ble_eq_true rfl) (ag_dr (ag_d1 rfl (ag_d1 rfl (ag_d1 rfl ag_d0))) (w_GC_authorize_0 hC htr hG hyp))
theorem t_GC_authorize {l : Launch} {G : ag_G} {d N : Nat} {C : Nat × Nat} (hC : ag_cN G = C.1 ∧ ag_cS G = C.2) (htr : ∀ e : Env, l.admits e → e.platform.stackTraces = false) (hH : 18 + 1 ≤ d) {a : Nat} {p1 : Int32} {p2 : Int32} {h : ag_H} {x : Nat} {h' : ag_H} (hyp : fn_GC_authorize N C a p1 p2 h = some (.inr x, h')) : ag_MetT gc_P l G m_GC_authorize d [.ref a, .int (p1), .int (p2)] h (fun x' h'' => x' = x ∧ h'' = h') := by
  obtain ⟨d, rfl, hG⟩ := md_dd hH
  exact ag_metT (by decide) rfl (Nat.le_of_ble_eq_true rfl) (ag_dr (ag_d1 rfl (ag_d1 rfl (ag_d1 rfl ag_d0))) (w_GC_authorize_0 hC htr hG hyp))
def fn_GC_fact_27 (N : Nat) (C : Nat × Nat) (a : Nat) (h : ag_H) : Option ((Int32 ⊕ Nat) × ag_H) := if h.1 + 1 ≤ C.1 ∧ h.2.1 + 6 ≤ C.2 then (some (.inr h.1, ag_nw h 6 (.inr (14, [])))) else none
def fn_GC_fact_0 (N : Nat) (C : Nat × Nat) (a : Nat) (x1 : Int32) (x2 : Int32) (h : ag_H) : Option ((Int32 ⊕ Nat) × ag_H) := if (x1) < (0) then (fn_GC_fact_27 N C a  h) else ((ag_gr h (some (a)) 0 2).bind fun g5 => (ag_gr h (g5) 3 0).bind fun g6 => (ag_gi h (g6) 4 1).bind fun g7 => if (g7) ≤ (x1) then (fn_GC_fact_27 N C a  h) else (if (x2) < (0) then (fn_GC_fact_27 N C a  h) else (if (x2) < (Int32.ofInt 5) then ((ag_gr h (some (a)) 0 2).bind fun g15 => (ag_gr h (g15) 3 0).bind fun g16 => (ag_gr h (g16) 4 0).bind fun g17 => (ag_ao h (g17)).bind fun p19 => if md_in (x1) p19.1 = true then ((ag_ai h 0 (p19.2 (x1).toNatClampNeg)).bind fun p21 => if md_in (x2) p21.1 = true then (some (.inl (p21.2 (x2).toNatClampNeg), h)) else none) else none) else (fn_GC_fact_27 N C a  h))))
def fn_GC_fact (N : Nat) (C : Nat × Nat) (a : Nat) (p1 : Int32) (p2 : Int32) (h : ag_H) : Option ((Int32 ⊕ Nat) × ag_H) := fn_GC_fact_0 N C a p1 p2 h
theorem w_GC_fact_27 {l : Launch} {G : ag_G} {d N : Nat} {C : Nat × Nat} {a : Nat} (hC : ag_cN G = C.1 ∧ ag_cS G = C.2) (htr : ∀ e : Env, l.admits e → e.platform.stackTraces = false) {h : ag_H} {res : (Int32 ⊕ Nat) × ag_H} (hyp : fn_GC_fact_27 N C a h = some res) : ag_ev gc_P l G m_GC_fact (d) (ag_out gc_P G res.1 res.2) 27 [(0, .ref a)] [] h := by
  unfold fn_GC_fact_27 at hyp
  have hc : ag_C1 [(0, .ref a)] := (ag_c1 rfl ag_c0)
  obtain ⟨q1, hyp⟩ := md_ifs hyp
  cases hyp
  exact ag_throw (ci := 14) (names := gc_sup) d_GC_fact_27 d_GC_fact_30 d_GC_fact_31 d_GC_fact_34 rfl gw_692 gw_693 gw_25 rfl (by decide +kernel) (by decide +kernel) xw_GC_117 (by decide) htr (Nat.le_of_ble_eq_true rfl) (by rw [hC.1]; exact q1.1) (by rw [hC.2]; exact q1.2) ⟨rfl, rfl⟩
theorem w_GC_fact_0 {l : Launch} {G : ag_G} {d N : Nat} {C : Nat × Nat} {a : Nat} (hC : ag_cN G = C.1 ∧ ag_cS G = C.2) (htr : ∀ e : Env, l.admits e → e.platform.stackTraces = false) {x1 : Int32} {x2 : Int32} {h : ag_H} {res : (Int32 ⊕ Nat) × ag_H} (hyp : fn_GC_fact_0 N C a x1 x2 h = some res) : ag_ev gc_P l G m_GC_fact (d) (ag_out gc_P G res.1 res.2) 0 [(0, .ref a), (1, .int (x1)), (2, .int (x2))] [] h := by
  unfold fn_GC_fact_0 at hyp
  have hc : ag_C1 [(0, .ref a), (1, .int (x1)), (2, .int (x2))] := (ag_c1 rfl (ag_c1 rfl (ag_c1 rfl ag_c0)))
  refine ag_iload_n d_GC_fact_0 rfl ?_
  refine ag_if_lt d_GC_fact_1 rfl (fun q => ?_) (fun q => ?_)
  · replace hyp := md_ifp q hyp
    exact ag_dr (ag_d1 rfl ag_d0) (w_GC_fact_27 hC htr hyp)
  · replace hyp := md_ifn q hyp
    refine ag_iload_n d_GC_fact_4 rfl ?_
    refine gc_aload_n (r := (some (a))) d_GC_fact_5 rfl ?_
    obtain ⟨g5, eg5, hyp⟩ := md_bd hyp
    refine gc_getr (r := (some (a))) d_GC_fact_6 fr_GC_26 eg5 ?_
    obtain ⟨g6, eg6, hyp⟩ := md_bd hyp
    refine gc_getr (r := (g5)) d_GC_fact_9 fr_GC_202 eg6 ?_
    obtain ⟨g7, eg7, hyp⟩ := md_bd hyp
    refine gc_geti (r := (g6)) d_GC_fact_12 fr_GC_206 eg7 ?_
    refine ag_icmp_ge d_GC_fact_15 rfl (fun q => ?_) (fun q => ?_)
    · replace hyp := md_ifp q hyp
      exact ag_dr (ag_d1 rfl ag_d0) (w_GC_fact_27 hC htr hyp)
    · replace hyp := md_ifn q hyp
      refine ag_iload_n d_GC_fact_18 rfl ?_
      refine ag_if_lt d_GC_fact_19 rfl (fun q => ?_) (fun q => ?_)
      · replace hyp := md_ifp q hyp
        exact ag_dr (ag_d1 rfl ag_d0) (w_GC_fact_27 hC htr hyp)
      · replace hyp := md_ifn q hyp
        refine ag_iload_n d_GC_fact_22 rfl ?_
        refine ag_iconst d_GC_fact_23 ?_
        refine ag_icmp_lt d_GC_fact_24 rfl (fun q => ?_) (fun q => ?_)
        · replace hyp := md_ifp q hyp
          refine gc_aload_n (r := (some (a))) d_GC_fact_35 rfl ?_
          obtain ⟨g15, eg15, hyp⟩ := md_bd hyp
          refine gc_getr (r := (some (a))) d_GC_fact_36 fr_GC_26 eg15 ?_
          obtain ⟨g16, eg16, hyp⟩ := md_bd hyp
          refine gc_getr (r := (g15)) d_GC_fact_39 fr_GC_202 eg16 ?_
          obtain ⟨g17, eg17, hyp⟩ := md_bd hyp
          refine gc_getr (r := (g16)) d_GC_fact_42 fr_GC_216 eg17 ?_
          refine ag_iload_n d_GC_fact_45 rfl ?_
          obtain ⟨p19, ep19, hyp⟩ := md_bd hyp
          obtain ⟨q19, hyp⟩ := md_ifs hyp
          refine gc_ald (r := (g17)) d_GC_fact_46 ep19 q19 ?_
          refine ag_iload_n d_GC_fact_47 rfl ?_
          obtain ⟨p21, ep21, hyp⟩ := md_bd hyp
          obtain ⟨q21, hyp⟩ := md_ifs hyp
          refine gc_ild (r := (p19.2 (x1).toNatClampNeg)) d_GC_fact_48 ep21 q21 ?_
          cases hyp
          exact ag_iret d_GC_fact_49 rfl rfl ⟨rfl, rfl⟩
        · replace hyp := md_ifn q hyp
          exact ag_dr (ag_d1 rfl ag_d0) (w_GC_fact_27 hC htr hyp)
theorem w_GC_fact {l : Launch} {G : ag_G} {d N : Nat} {C : Nat × Nat} (hC : ag_cN G = C.1 ∧ ag_cS G = C.2) (htr : ∀ e : Env, l.admits e → e.platform.stackTraces = false) (hH : 0 ≤ d) {a : Nat} {p1 : Int32} {p2 : Int32} {h : ag_H} {x : Int32} {h' : ag_H} (hyp : fn_GC_fact N C a p1 p2 h = some (.inl x, h')) : ag_Met gc_P l G m_GC_fact d [.ref a, .int (p1), .int (p2)] h (fun v h'' => v = some (.int x) ∧ h'' = h') := by
  exact ag_met (by decide) rfl (Nat.le_of_ble_eq_true rfl) (ag_dr (ag_d1 rfl (ag_d1 rfl (ag_d1 rfl ag_d0))) (w_GC_fact_0 hC htr hyp))
theorem t_GC_fact {l : Launch} {G : ag_G} {d N : Nat} {C : Nat × Nat} (hC : ag_cN G = C.1 ∧ ag_cS G = C.2) (htr : ∀ e : Env, l.admits e → e.platform.stackTraces = false) (hH : 0 ≤ d) {a : Nat} {p1 : Int32} {p2 : Int32} {h : ag_H} {x : Nat} {h' : ag_H} (hyp : fn_GC_fact N C a p1 p2 h = some (.inr x, h')) : ag_MetT gc_P l G m_GC_fact d [.ref a, .int (p1), .int (p2)] h (fun x' h'' => x' = x ∧ h'' = h') := by
  exact ag_metT (by decide) rfl (Nat.le_of_ble_eq_true rfl) (ag_dr (ag_d1 rfl (ag_d1 rfl (ag_d1 rfl ag_d0))) (w_GC_fact_0 hC htr hyp))
def fn_Tk_tell_40 (N : Nat) (C : Nat × Nat) (a : Nat) (s0 : Int32) (h : ag_H) : Option ((Int32) × ag_H) := some ((s0), h)
def fn_Tk_tell_0 (N : Nat) (C : Nat × Nat) (a : Nat) (x1 : Int32) (h : ag_H) : Option ((Int32) × ag_H) := if (x1) = (0) then ((ag_gr h (some (a)) 8 0).bind fun g16 => (ag_rc h (g16) 11).bind fun a17 => (fn_AL_size N C a17  h).bind fun r17 => fn_Tk_tell_40 N C a (r17.1) r17.2) else (if (x1) = (Int32.ofInt 1) then ((ag_gi h (some (a)) 8 1).bind fun g9 => if (g9) = (0) then (fn_Tk_tell_40 N C a (Int32.ofInt 0) h) else (fn_Tk_tell_40 N C a (Int32.ofInt 1) h)) else ((ag_gi h (some (a)) 8 2).bind fun g7 => fn_Tk_tell_40 N C a (g7) h))
def fn_Tk_tell (N : Nat) (C : Nat × Nat) (a : Nat) (p1 : Int32) (h : ag_H) : Option ((Int32) × ag_H) := fn_Tk_tell_0 N C a p1 h
theorem w_Tk_tell_40 {l : Launch} {G : ag_G} {d N : Nat} {C : Nat × Nat} {a : Nat} (hC : ag_cN G = C.1 ∧ ag_cS G = C.2) (hH : 0 ≤ d) {s0 : Int32} {h : ag_H} {res : (Int32) × ag_H} (hyp : fn_Tk_tell_40 N C a s0 h = some res) : ag_ev gc_P l G m_Tk_tell (d + 1) (ag_ret gc_P G (fun v h' => v = some (.int res.1) ∧ h' = res.2)) 40 [(0, .ref a)] [.int (s0)] h := by
  unfold fn_Tk_tell_40 at hyp
  have hc : ag_C1 [(0, .ref a)] := (ag_c1 rfl ag_c0)
  cases hyp
  exact ag_iret d_Tk_tell_40 rfl rfl ⟨rfl, rfl⟩
theorem w_Tk_tell_0 {l : Launch} {G : ag_G} {d N : Nat} {C : Nat × Nat} {a : Nat} (hC : ag_cN G = C.1 ∧ ag_cS G = C.2) (hH : 0 ≤ d) {x1 : Int32} {h : ag_H} {res : (Int32) × ag_H} (hyp : fn_Tk_tell_0 N C a x1 h = some res) : ag_ev gc_P l G m_Tk_tell (d + 1) (ag_ret gc_P G (fun v h' => v = some (.int res.1) ∧ h' = res.2)) 0 [(0, .ref a), (1, .int (x1))] [] h := by
  unfold fn_Tk_tell_0 at hyp
  have hc : ag_C1 [(0, .ref a), (1, .int (x1))] := (ag_c1 rfl (ag_c1 rfl ag_c0))
  refine ag_iload_n d_Tk_tell_0 rfl ?_
  refine ag_if_ne d_Tk_tell_1 rfl (fun q => ?_) (fun q => ?_)
  · replace hyp := md_ifn q hyp
    refine ag_iload_n d_Tk_tell_16 rfl ?_
    refine ag_iconst d_Tk_tell_17 ?_
    refine ag_icmp_ne d_Tk_tell_18 rfl (fun q => ?_) (fun q => ?_)
    · replace hyp := md_ifn q hyp
      refine gc_aload_n (r := (some (a))) d_Tk_tell_36 rfl ?_
      obtain ⟨g7, eg7, hyp⟩ := md_bd hyp
      refine gc_geti (r := (some (a))) d_Tk_tell_37 fr_Tk_37 eg7 ?_
      exact ag_dr (ag_d1 rfl ag_d0) (w_Tk_tell_40 hC hH hyp)
    · replace hyp := md_ifp q hyp
      refine gc_aload_n (r := (some (a))) d_Tk_tell_21 rfl ?_
      obtain ⟨g9, eg9, hyp⟩ := md_bd hyp
      refine gc_geti (r := (some (a))) d_Tk_tell_22 fr_Tk_33 eg9 ?_
      refine ag_if_eq d_Tk_tell_25 rfl (fun q => ?_) (fun q => ?_)
      · replace hyp := md_ifp q hyp
        refine ag_iconst d_Tk_tell_32 ?_
        refine ag_goto d_Tk_tell_33 rfl ?_
        exact ag_dr (ag_d1 rfl ag_d0) (w_Tk_tell_40 hC hH hyp)
      · replace hyp := md_ifn q hyp
        refine ag_iconst d_Tk_tell_28 ?_
        refine ag_goto d_Tk_tell_29 rfl ?_
        exact ag_dr (ag_d1 rfl ag_d0) (w_Tk_tell_40 hC hH hyp)
  · replace hyp := md_ifp q hyp
    refine gc_aload_n (r := (some (a))) d_Tk_tell_4 rfl ?_
    obtain ⟨g16, eg16, hyp⟩ := md_bd hyp
    refine gc_getr (r := (some (a))) d_Tk_tell_5 fr_Tk_10 eg16 ?_
    obtain ⟨a17, ea17, hyp⟩ := md_bd hyp
    obtain ⟨r17, er17, hyp⟩ := md_bd hyp
    refine gc_callf (r := (g16)) (as := []) d_Tk_tell_8 il_Tk_17 ea17 (Nat.le_of_ble_eq_true rfl) (w_AL_size hC (d := d) (by omega) er17) (fun v17 h17 q17 => ?_)
    obtain ⟨rfl, rfl⟩ := q17
    refine ag_goto d_Tk_tell_13 rfl ?_
    exact ag_dr (ag_d1 rfl ag_d0) (w_Tk_tell_40 hC hH hyp)
theorem w_Tk_tell {l : Launch} {G : ag_G} {d N : Nat} {C : Nat × Nat} (hC : ag_cN G = C.1 ∧ ag_cS G = C.2) (hH : 0 + 1 ≤ d) {a : Nat} {p1 : Int32} {h : ag_H} {res : (Int32) × ag_H} (hyp : fn_Tk_tell N C a p1 h = some res) : ag_Met gc_P l G m_Tk_tell d [.ref a, .int (p1)] h (fun v h' => v = some (.int res.1) ∧ h' = res.2) := by
  obtain ⟨d, rfl, hG⟩ := md_dd hH
  exact ag_met (by decide) rfl (Nat.le_of_ble_eq_true rfl) (ag_dr (ag_d1 rfl (ag_d1 rfl ag_d0)) (w_Tk_tell_0 hC hG hyp))
def fn_Lk_tell_28 (N : Nat) (C : Nat × Nat) (a : Nat) (s0 : Int32) (h : ag_H) : Option ((Int32) × ag_H) := some ((s0), h)
def fn_Lk_tell_0 (N : Nat) (C : Nat × Nat) (a : Nat) (x1 : Int32) (h : ag_H) : Option ((Int32) × ag_H) := if (x1) = (Int32.ofInt 1) then ((ag_gi h (some (a)) 9 0).bind fun g13 => fn_Lk_tell_28 N C a (g13) h) else (if (x1) = (Int32.ofInt 2) then ((ag_gi h (some (a)) 9 1).bind fun g10 => fn_Lk_tell_28 N C a (g10) h) else ((ag_gi h (some (a)) 9 2).bind fun g8 => fn_Lk_tell_28 N C a (g8) h))
def fn_Lk_tell (N : Nat) (C : Nat × Nat) (a : Nat) (p1 : Int32) (h : ag_H) : Option ((Int32) × ag_H) := fn_Lk_tell_0 N C a p1 h
theorem w_Lk_tell_28 {l : Launch} {G : ag_G} {d N : Nat} {C : Nat × Nat} {a : Nat} (hC : ag_cN G = C.1 ∧ ag_cS G = C.2) {s0 : Int32} {h : ag_H} {res : (Int32) × ag_H} (hyp : fn_Lk_tell_28 N C a s0 h = some res) : ag_ev gc_P l G m_Lk_tell (d) (ag_ret gc_P G (fun v h' => v = some (.int res.1) ∧ h' = res.2)) 28 [(0, .ref a)] [.int (s0)] h := by
  unfold fn_Lk_tell_28 at hyp
  have hc : ag_C1 [(0, .ref a)] := (ag_c1 rfl ag_c0)
  cases hyp
  exact ag_iret d_Lk_tell_28 rfl rfl ⟨rfl, rfl⟩
theorem w_Lk_tell_0 {l : Launch} {G : ag_G} {d N : Nat} {C : Nat × Nat} {a : Nat} (hC : ag_cN G = C.1 ∧ ag_cS G = C.2) {x1 : Int32} {h : ag_H} {res : (Int32) × ag_H} (hyp : fn_Lk_tell_0 N C a x1 h = some res) : ag_ev gc_P l G m_Lk_tell (d) (ag_ret gc_P G (fun v h' => v = some (.int res.1) ∧ h' = res.2)) 0 [(0, .ref a), (1, .int (x1))] [] h := by
  unfold fn_Lk_tell_0 at hyp
  have hc : ag_C1 [(0, .ref a), (1, .int (x1))] := (ag_c1 rfl (ag_c1 rfl ag_c0))
  refine ag_iload_n d_Lk_tell_0 rfl ?_
  refine ag_iconst d_Lk_tell_1 ?_
  refine ag_icmp_ne d_Lk_tell_2 rfl (fun q => ?_) (fun q => ?_)
  · replace hyp := md_ifn q hyp
    refine ag_iload_n d_Lk_tell_12 rfl ?_
    refine ag_iconst d_Lk_tell_13 ?_
    refine ag_icmp_ne d_Lk_tell_14 rfl (fun q => ?_) (fun q => ?_)
    · replace hyp := md_ifn q hyp
      refine gc_aload_n (r := (some (a))) d_Lk_tell_24 rfl ?_
      obtain ⟨g8, eg8, hyp⟩ := md_bd hyp
      refine gc_geti (r := (some (a))) d_Lk_tell_25 fr_Lk_16 eg8 ?_
      exact ag_dr (ag_d1 rfl ag_d0) (w_Lk_tell_28 hC hyp)
    · replace hyp := md_ifp q hyp
      refine gc_aload_n (r := (some (a))) d_Lk_tell_17 rfl ?_
      obtain ⟨g10, eg10, hyp⟩ := md_bd hyp
      refine gc_geti (r := (some (a))) d_Lk_tell_18 fr_Lk_13 eg10 ?_
      refine ag_goto d_Lk_tell_21 rfl ?_
      exact ag_dr (ag_d1 rfl ag_d0) (w_Lk_tell_28 hC hyp)
  · replace hyp := md_ifp q hyp
    refine gc_aload_n (r := (some (a))) d_Lk_tell_5 rfl ?_
    obtain ⟨g13, eg13, hyp⟩ := md_bd hyp
    refine gc_geti (r := (some (a))) d_Lk_tell_6 fr_Lk_7 eg13 ?_
    refine ag_goto d_Lk_tell_9 rfl ?_
    exact ag_dr (ag_d1 rfl ag_d0) (w_Lk_tell_28 hC hyp)
theorem w_Lk_tell {l : Launch} {G : ag_G} {d N : Nat} {C : Nat × Nat} (hC : ag_cN G = C.1 ∧ ag_cS G = C.2) (hH : 0 ≤ d) {a : Nat} {p1 : Int32} {h : ag_H} {res : (Int32) × ag_H} (hyp : fn_Lk_tell N C a p1 h = some res) : ag_Met gc_P l G m_Lk_tell d [.ref a, .int (p1)] h (fun v h' => v = some (.int res.1) ∧ h' = res.2) := by
  exact ag_met (by decide) rfl (Nat.le_of_ble_eq_true rfl) (ag_dr (ag_d1 rfl (ag_d1 rfl ag_d0)) (w_Lk_tell_0 hC hyp))
def fn_GC_token_12 (N : Nat) (C : Nat × Nat) (a : Nat) (h : ag_H) : Option ((Int32 ⊕ Nat) × ag_H) := if h.1 + 1 ≤ C.1 ∧ h.2.1 + 6 ≤ C.2 then (some (.inr h.1, ag_nw h 6 (.inr (14, [])))) else none
def fn_GC_token_75 (N : Nat) (C : Nat × Nat) (a : Nat) (h : ag_H) : Option ((Int32 ⊕ Nat) × ag_H) := if h.1 + 1 ≤ C.1 ∧ h.2.1 + 6 ≤ C.2 then (some (.inr h.1, ag_nw h 6 (.inr (14, [])))) else none
def fn_GC_token_116 (N : Nat) (C : Nat × Nat) (a : Nat) (s0 : Int32) (h : ag_H) : Option ((Int32 ⊕ Nat) × ag_H) := some (.inl (s0), h)
def fn_GC_token_72 (N : Nat) (C : Nat × Nat) (a : Nat) (x3 : Option Nat) (x4 : Int32) (x5 : Int32) (s0 : Int32) (s1 : Int32) (h : ag_H) : Option ((Int32 ⊕ Nat) × ag_H) := if (s0) < (s1) then (if (x4) = (0) then ((ag_rc h (x3) 8).bind fun a13 => (fn_Tk_tell N C a13 (x5) h).bind fun r13 => fn_GC_token_116 N C a (r13.1) r13.2) else ((ag_gr h (x3) 8 0).bind fun g5 => (ag_rc h (g5) 11).bind fun a7 => (fn_AL_get N C a7 (x5) h).bind fun r7 => if ag_ck r7.2 (r7.1) 9 = true then ((ag_rc r7.2 (r7.1) 9).bind fun a10 => (fn_Lk_tell N C a10 (x4) r7.2).bind fun r10 => fn_GC_token_116 N C a (r10.1) r10.2) else none)) else (fn_GC_token_75 N C a  h)
def fn_GC_token_0 (N : Nat) (C : Nat × Nat) (a : Nat) (x1 : Int32) (x2 : Int32) (h : ag_H) : Option ((Int32 ⊕ Nat) × ag_H) := (ag_rc h (some (a)) 0).bind fun a3 => (fn_GC_isToken N C a3 (x1) h).bind fun r3 => if (r3.1) = (0) then (fn_GC_token_12 N C a  r3.2) else (if (0) ≤ (x2) then ((ag_gr r3.2 (some (a)) 0 5).bind fun g8 => (ag_rc r3.2 (g8) 11).bind fun a10 => (fn_AL_get N C a10 (x1) r3.2).bind fun r10 => if ag_ck r10.2 (r10.1) 8 = true then (if ¬ ((Int8.ofInt (10)).toInt32) = 0 then (if ¬ ((Int8.ofInt (10)).toInt32) = 0 then (if (Int32.ofInt 3) < ((x2) / ((Int8.ofInt (10)).toInt32)) then (fn_GC_token_75 N C a  r10.2) else (if ((x2) / ((Int8.ofInt (10)).toInt32)) = (0) then (fn_GC_token_72 N C a ((r10.1)) ((x2) / ((Int8.ofInt (10)).toInt32)) ((x2) - (x2) / ((Int8.ofInt (10)).toInt32) * ((Int8.ofInt (10)).toInt32)) ((x2) - (x2) / ((Int8.ofInt (10)).toInt32) * ((Int8.ofInt (10)).toInt32)) (Int32.ofInt 3) r10.2) else ((ag_gr r10.2 ((r10.1)) 8 0).bind fun g28 => (ag_rc r10.2 (g28) 11).bind fun a29 => (fn_AL_size N C a29  r10.2).bind fun r29 => fn_GC_token_72 N C a ((r10.1)) ((x2) / ((Int8.ofInt (10)).toInt32)) ((x2) - (x2) / ((Int8.ofInt (10)).toInt32) * ((Int8.ofInt (10)).toInt32)) ((x2) - (x2) / ((Int8.ofInt (10)).toInt32) * ((Int8.ofInt (10)).toInt32)) (r29.1) r29.2))) else none) else none) else none) else (fn_GC_token_12 N C a  r3.2))
def fn_GC_token (N : Nat) (C : Nat × Nat) (a : Nat) (p1 : Int32) (p2 : Int32) (h : ag_H) : Option ((Int32 ⊕ Nat) × ag_H) := fn_GC_token_0 N C a p1 p2 h
theorem w_GC_token_12 {l : Launch} {G : ag_G} {d N : Nat} {C : Nat × Nat} {a : Nat} (hC : ag_cN G = C.1 ∧ ag_cS G = C.2) (htr : ∀ e : Env, l.admits e → e.platform.stackTraces = false) (hH : 2 ≤ d) {h : ag_H} {res : (Int32 ⊕ Nat) × ag_H} (hyp : fn_GC_token_12 N C a h = some res) : ag_ev gc_P l G m_GC_token (d + 1) (ag_out gc_P G res.1 res.2) 12 [(0, .ref a)] [] h := by
  unfold fn_GC_token_12 at hyp
  have hc : ag_C1 [(0, .ref a)] := (ag_c1 rfl ag_c0)
  obtain ⟨q1, hyp⟩ := md_ifs hyp
  cases hyp
  exact ag_throw (ci := 14) (names := gc_sup) d_GC_token_12 d_GC_token_15 d_GC_token_16 d_GC_token_19 rfl gw_692 gw_693 gw_25 rfl (by decide +kernel) (by decide +kernel) xw_GC_117 (by decide) htr (Nat.le_of_ble_eq_true rfl) (by rw [hC.1]; exact q1.1) (by rw [hC.2]; exact q1.2) ⟨rfl, rfl⟩
theorem w_GC_token_75 {l : Launch} {G : ag_G} {d N : Nat} {C : Nat × Nat} {a : Nat} (hC : ag_cN G = C.1 ∧ ag_cS G = C.2) (htr : ∀ e : Env, l.admits e → e.platform.stackTraces = false) (hH : 2 ≤ d) {h : ag_H} {res : (Int32 ⊕ Nat) × ag_H} (hyp : fn_GC_token_75 N C a h = some res) : ag_ev gc_P l G m_GC_token (d + 1) (ag_out gc_P G res.1 res.2) 75 [(0, .ref a)] [] h := by
  unfold fn_GC_token_75 at hyp
  have hc : ag_C1 [(0, .ref a)] := (ag_c1 rfl ag_c0)
  obtain ⟨q1, hyp⟩ := md_ifs hyp
  cases hyp
  exact ag_throw (ci := 14) (names := gc_sup) d_GC_token_75 d_GC_token_78 d_GC_token_79 d_GC_token_82 rfl gw_692 gw_693 gw_25 rfl (by decide +kernel) (by decide +kernel) xw_GC_117 (by decide) htr (Nat.le_of_ble_eq_true rfl) (by rw [hC.1]; exact q1.1) (by rw [hC.2]; exact q1.2) ⟨rfl, rfl⟩
theorem w_GC_token_116 {l : Launch} {G : ag_G} {d N : Nat} {C : Nat × Nat} {a : Nat} (hC : ag_cN G = C.1 ∧ ag_cS G = C.2) (htr : ∀ e : Env, l.admits e → e.platform.stackTraces = false) (hH : 2 ≤ d) {s0 : Int32} {h : ag_H} {res : (Int32 ⊕ Nat) × ag_H} (hyp : fn_GC_token_116 N C a s0 h = some res) : ag_ev gc_P l G m_GC_token (d + 1) (ag_out gc_P G res.1 res.2) 116 [(0, .ref a)] [.int (s0)] h := by
  unfold fn_GC_token_116 at hyp
  have hc : ag_C1 [(0, .ref a)] := (ag_c1 rfl ag_c0)
  cases hyp
  exact ag_iret d_GC_token_116 rfl rfl ⟨rfl, rfl⟩
theorem w_GC_token_72 {l : Launch} {G : ag_G} {d N : Nat} {C : Nat × Nat} {a : Nat} (hC : ag_cN G = C.1 ∧ ag_cS G = C.2) (htr : ∀ e : Env, l.admits e → e.platform.stackTraces = false) (hH : 2 ≤ d) {x3 : Option Nat} {x4 : Int32} {x5 : Int32} {s0 : Int32} {s1 : Int32} {h : ag_H} {res : (Int32 ⊕ Nat) × ag_H} (hyp : fn_GC_token_72 N C a x3 x4 x5 s0 s1 h = some res) : ag_ev gc_P l G m_GC_token (d + 1) (ag_out gc_P G res.1 res.2) 72 [(0, .ref a), (3, ag_rf (x3)), (4, .int (x4)), (5, .int (x5))] [.int (s1), .int (s0)] h := by
  unfold fn_GC_token_72 at hyp
  have hc : ag_C1 [(0, .ref a), (3, ag_rf (x3)), (4, .int (x4)), (5, .int (x5))] := (ag_c1 rfl (ag_c1 (ag_cat_rf _) (ag_c1 rfl (ag_c1 rfl ag_c0))))
  refine ag_icmp_lt d_GC_token_72 rfl (fun q => ?_) (fun q => ?_)
  · replace hyp := md_ifp q hyp
    refine ag_iload d_GC_token_83 rfl ?_
    refine ag_if_ne d_GC_token_85 rfl (fun q => ?_) (fun q => ?_)
    · replace hyp := md_ifn q hyp
      refine gc_aload_n (r := (x3)) d_GC_token_97 rfl ?_
      obtain ⟨g5, eg5, hyp⟩ := md_bd hyp
      refine gc_getr (r := (x3)) d_GC_token_98 fr_GC_126 eg5 ?_
      refine ag_iload d_GC_token_101 rfl ?_
      obtain ⟨a7, ea7, hyp⟩ := md_bd hyp
      obtain ⟨r7, er7, hyp⟩ := md_bd hyp
      refine gc_callf (r := (g5)) (as := [.int (x5)]) d_GC_token_103 il_GC_118 ea7 (Nat.le_of_ble_eq_true rfl) (w_AL_get hC (d := d) (by omega) er7) (fun v7 h7 q7 => ?_)
      obtain ⟨rfl, rfl⟩ := q7
      obtain ⟨q8, hyp⟩ := md_ifs hyp
      refine gc_cast (r := (r7.1)) d_GC_token_108 gw_643 rfl q8 ?_
      refine ag_iload d_GC_token_111 rfl ?_
      obtain ⟨a10, ea10, hyp⟩ := md_bd hyp
      obtain ⟨r10, er10, hyp⟩ := md_bd hyp
      refine gc_callv (r := (r7.1)) (as := [.int (x4)]) d_GC_token_113 ml_GC_223 gw_932 rfl sl_Lk_tell ea10 (Nat.le_of_ble_eq_true rfl) (w_Lk_tell hC (d := d) (by omega) er10) (fun v10 h10 q10 => ?_)
      obtain ⟨rfl, rfl⟩ := q10
      exact ag_dr (ag_d1 rfl ag_d0) (w_GC_token_116 hC htr hH hyp)
    · replace hyp := md_ifp q hyp
      refine gc_aload_n (r := (x3)) d_GC_token_88 rfl ?_
      refine ag_iload d_GC_token_89 rfl ?_
      obtain ⟨a13, ea13, hyp⟩ := md_bd hyp
      obtain ⟨r13, er13, hyp⟩ := md_bd hyp
      refine gc_callv (r := (x3)) (as := [.int (x5)]) d_GC_token_91 ml_GC_220 gw_928 rfl sl_Tk_tell ea13 (Nat.le_of_ble_eq_true rfl) (w_Tk_tell hC (d := d) (by omega) er13) (fun v13 h13 q13 => ?_)
      obtain ⟨rfl, rfl⟩ := q13
      refine ag_goto d_GC_token_94 rfl ?_
      exact ag_dr (ag_d1 rfl ag_d0) (w_GC_token_116 hC htr hH hyp)
  · replace hyp := md_ifn q hyp
    exact ag_dr (ag_d1 rfl ag_d0) (w_GC_token_75 hC htr hH hyp)
theorem w_GC_token_0 {l : Launch} {G : ag_G} {d N : Nat} {C : Nat × Nat} {a : Nat} (hC : ag_cN G = C.1 ∧ ag_cS G = C.2) (htr : ∀ e : Env, l.admits e → e.platform.stackTraces = false) (hH : 2 ≤ d) {x1 : Int32} {x2 : Int32} {h : ag_H} {res : (Int32 ⊕ Nat) × ag_H} (hyp : fn_GC_token_0 N C a x1 x2 h = some res) : ag_ev gc_P l G m_GC_token (d + 1) (ag_out gc_P G res.1 res.2) 0 [(0, .ref a), (1, .int (x1)), (2, .int (x2))] [] h := by
  unfold fn_GC_token_0 at hyp
  have hc : ag_C1 [(0, .ref a), (1, .int (x1)), (2, .int (x2))] := (ag_c1 rfl (ag_c1 rfl (ag_c1 rfl ag_c0)))
  refine gc_aload_n (r := (some (a))) d_GC_token_0 rfl ?_
  refine ag_iload_n d_GC_token_1 rfl ?_
  obtain ⟨a3, ea3, hyp⟩ := md_bd hyp
  obtain ⟨r3, er3, hyp⟩ := md_bd hyp
  refine gc_callv (r := (some (a))) (as := [.int (x1)]) d_GC_token_2 ml_GC_112 gw_690 rfl sl_GC_isToken ea3 (Nat.le_of_ble_eq_true rfl) (w_GC_isToken hC (d := d) (by omega) er3) (fun v3 h3 q3 => ?_)
  obtain ⟨rfl, rfl⟩ := q3
  refine ag_if_eq d_GC_token_5 rfl (fun q => ?_) (fun q => ?_)
  · replace hyp := md_ifp q hyp
    exact ag_dr (ag_d1 rfl ag_d0) (w_GC_token_12 hC htr hH hyp)
  · replace hyp := md_ifn q hyp
    refine ag_iload_n d_GC_token_8 rfl ?_
    refine ag_if_ge d_GC_token_9 rfl (fun q => ?_) (fun q => ?_)
    · replace hyp := md_ifp q hyp
      refine gc_aload_n (r := (some (a))) d_GC_token_20 rfl ?_
      obtain ⟨g8, eg8, hyp⟩ := md_bd hyp
      refine gc_getr (r := (some (a))) d_GC_token_21 fr_GC_44 eg8 ?_
      refine ag_iload_n d_GC_token_24 rfl ?_
      obtain ⟨a10, ea10, hyp⟩ := md_bd hyp
      obtain ⟨r10, er10, hyp⟩ := md_bd hyp
      refine gc_callf (r := (g8)) (as := [.int (x1)]) d_GC_token_25 il_GC_118 ea10 (Nat.le_of_ble_eq_true rfl) (w_AL_get hC (d := d) (by omega) er10) (fun v10 h10 q10 => ?_)
      obtain ⟨rfl, rfl⟩ := q10
      obtain ⟨q11, hyp⟩ := md_ifs hyp
      refine gc_cast (r := (r10.1)) d_GC_token_30 gw_610 rfl q11 ?_
      refine gc_astore0_n (r := (r10.1)) d_GC_token_33 (by decide) hc ?_
      replace hc := ag_cs (i := 3) (v := ag_rf (r10.1)) hc (ag_cat_rf _)
      refine ag_iload_n d_GC_token_34 rfl ?_
      refine ag_bipush d_GC_token_35 ?_
      obtain ⟨q15, hyp⟩ := md_ifs hyp
      refine ag_idiv d_GC_token_37 q15 ?_
      refine gc_istore d_GC_token_38 (by decide) hc ?_
      replace hc := ag_cs (i := 4) (v := .int ((x2) / ((Int8.ofInt (10)).toInt32))) hc rfl
      refine ag_iload_n d_GC_token_40 rfl ?_
      refine ag_bipush d_GC_token_41 ?_
      obtain ⟨q19, hyp⟩ := md_ifs hyp
      refine ag_irem d_GC_token_43 q19 ?_
      refine gc_istore d_GC_token_44 (by decide) hc ?_
      replace hc := ag_cs (i := 5) (v := .int ((x2) - (x2) / ((Int8.ofInt (10)).toInt32) * ((Int8.ofInt (10)).toInt32))) hc rfl
      refine ag_iload d_GC_token_46 rfl ?_
      refine ag_iconst d_GC_token_48 ?_
      refine ag_icmp_gt d_GC_token_49 rfl (fun q => ?_) (fun q => ?_)
      · replace hyp := md_ifp q hyp
        exact ag_dr (ag_d1 rfl ag_d0) (w_GC_token_75 hC htr hH hyp)
      · replace hyp := md_ifn q hyp
        refine ag_iload d_GC_token_52 rfl ?_
        refine ag_iload d_GC_token_54 rfl ?_
        refine ag_if_ne d_GC_token_56 rfl (fun q => ?_) (fun q => ?_)
        · replace hyp := md_ifn q hyp
          refine gc_aload_n (r := ((r10.1))) d_GC_token_63 rfl ?_
          obtain ⟨g28, eg28, hyp⟩ := md_bd hyp
          refine gc_getr (r := ((r10.1))) d_GC_token_64 fr_GC_126 eg28 ?_
          obtain ⟨a29, ea29, hyp⟩ := md_bd hyp
          obtain ⟨r29, er29, hyp⟩ := md_bd hyp
          refine gc_callf (r := (g28)) (as := []) d_GC_token_67 il_GC_85 ea29 (Nat.le_of_ble_eq_true rfl) (w_AL_size hC (d := d) (by omega) er29) (fun v29 h29 q29 => ?_)
          obtain ⟨rfl, rfl⟩ := q29
          exact ag_dr (ag_d1 rfl (ag_d1 rfl (ag_d1 rfl (ag_d1 rfl ag_d0)))) (w_GC_token_72 hC htr hH hyp)
        · replace hyp := md_ifp q hyp
          refine ag_iconst d_GC_token_59 ?_
          refine ag_goto d_GC_token_60 rfl ?_
          exact ag_dr (ag_d1 rfl (ag_d1 rfl (ag_d1 rfl (ag_d1 rfl ag_d0)))) (w_GC_token_72 hC htr hH hyp)
    · replace hyp := md_ifn q hyp
      exact ag_dr (ag_d1 rfl ag_d0) (w_GC_token_12 hC htr hH hyp)
theorem w_GC_token {l : Launch} {G : ag_G} {d N : Nat} {C : Nat × Nat} (hC : ag_cN G = C.1 ∧ ag_cS G = C.2) (htr : ∀ e : Env, l.admits e → e.platform.stackTraces = false) (hH : 2 + 1 ≤ d) {a : Nat} {p1 : Int32} {p2 : Int32} {h : ag_H} {x : Int32} {h' : ag_H} (hyp : fn_GC_token N C a p1 p2 h = some (.inl x, h')) : ag_Met gc_P l G m_GC_token d [.ref a, .int (p1), .int (p2)] h (fun v h'' => v = some (.int x) ∧ h'' = h') := by
  obtain ⟨d, rfl, hG⟩ := md_dd hH
  exact ag_met (by decide) rfl (Nat.le_of_ble_eq_true rfl) (ag_dr (ag_d1 rfl (ag_d1 rfl (ag_d1 rfl ag_d0))) (w_GC_token_0 hC htr hG hyp))
theorem t_GC_token {l : Launch} {G : ag_G} {d N : Nat} {C : Nat × Nat} (hC : ag_cN G = C.1 ∧ ag_cS G = C.2) (htr : ∀ e : Env, l.admits e → e.platform.stackTraces = false) (hH : 2 + 1 ≤ d) {a : Nat} {p1 : Int32} {p2 : Int32} {h : ag_H} {x : Nat} {h' : ag_H} (hyp : fn_GC_token N C a p1 p2 h = some (.inr x, h')) : ag_MetT gc_P l G m_GC_token d [.ref a, .int (p1), .int (p2)] h (fun x' h'' => x' = x ∧ h'' = h') := by
  obtain ⟨d, rfl, hG⟩ := md_dd hH
  exact ag_metT (by decide) rfl (Nat.le_of_ble_eq_true rfl) (ag_dr (ag_d1 rfl (ag_d1 rfl (ag_d1 rfl ag_d0))) (w_GC_token_0 hC htr hG hyp))
