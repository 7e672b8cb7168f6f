/-! GC_desk, GC_isRoot, Tk_init, GC_newKey, Lk_init, Tk_openWith, GC_keep, GC_keepWithNewLink, GC_issue, GC_isToken, Pr_checkIndex, Ob_checkIndex, AL_elementData, AL_get, Tk_copy, GC_append, GC_seal, GC_canTamper, AL_fastRemove, AL_remove, Tk_cutTo -/
def fn_GC_desk_0 (N : Nat) (C : Nat × Nat) (a : Nat) (h : ag_H) : Option ((Int32 ⊕ Nat) × ag_H) := (ag_gr h (some (a)) 0 1).bind fun g2 => (ag_gr h (some (a)) 0 0).bind fun g4 => (ag_rc h (g2) 2).bind fun a5 => (fn_Rd_read N C a5 (g4) h).bind fun r5 => if ((r5.1)) = none then (if r5.2.1 + 1 ≤ C.1 ∧ r5.2.2.1 + 6 ≤ C.2 then (some (.inr r5.2.1, ag_nw r5.2 6 (.inr (12, [])))) else none) else ((ag_gr r5.2 (some (a)) 0 3).bind fun g10 => (ag_gr r5.2 (g10) 5 0).bind fun g11 => (ag_rc r5.2 (g11) 11).bind fun a12 => (fn_AL_size N C a12  r5.2).bind fun r12 => if (r12.1) < ((Int8.ofInt (10)).toInt32) then ((ag_gr r12.2 (some (a)) 0 3).bind fun g18 => (ag_rc r12.2 (some (a)) 0).bind fun a19 => (fn_GC_moveLine N C a19 ((r5.1)) (g18) r12.2).bind fun r19 => some (.inl (r19.1), r19.2)) else (if r12.2.1 + 1 ≤ C.1 ∧ r12.2.2.1 + 6 ≤ C.2 then (some (.inr r12.2.1, ag_nw r12.2 6 (.inr (13, [])))) else none))
def fn_GC_desk (N : Nat) (C : Nat × Nat) (a : Nat) (h : ag_H) : Option ((Int32 ⊕ Nat) × ag_H) := fn_GC_desk_0 N C a h
theorem w_GC_desk_0 {l : Launch} {G : ag_G} {d N : Nat} {C : Nat × Nat} {a : Nat} (hC : ag_cN G = C.1 ∧ ag_cS G = C.2) (htr : ∀ e : Env, l.admits e → e.platform.stackTraces = false) (hH : 21 ≤ d) {h : ag_H} {res : (Int32 ⊕ Nat) × ag_H} (hyp : fn_GC_desk_0 N C a h = some res) : ag_ev gc_P l G m_GC_desk (d + 1) (ag_out gc_P G res.1 res.2) 0 [(0, .ref a)] [] h := by
  unfold fn_GC_desk_0 at hyp
  have hc : ag_C1 [(0, .ref a)] := (ag_c1 rfl ag_c0)
  refine gc_aload_n (r := (some (a))) d_GC_desk_0 rfl ?_
  obtain ⟨g2, eg2, hyp⟩ := md_bd hyp
  refine gc_getr (r := (some (a))) d_GC_desk_1 fr_GC_19 eg2 ?_
  refine gc_aload_n (r := (some (a))) d_GC_desk_4 rfl ?_
  obtain ⟨g4, eg4, hyp⟩ := md_bd hyp
  refine gc_getr (r := (some (a))) d_GC_desk_5 fr_GC_10 eg4 ?_
  obtain ⟨a5, ea5, hyp⟩ := md_bd hyp
  obtain ⟨r5, er5, hyp⟩ := md_bd hyp
  refine gc_callv (r := (g2)) (as := [ag_rf (g4)]) d_GC_desk_8 ml_GC_67 gw_288 rfl sl_Rd_read ea5 (Nat.le_of_ble_eq_true rfl) (w_Rd_read hC (d := d) (by omega) er5) (fun v5 h5 q5 => ?_)
  obtain ⟨rfl, rfl⟩ := q5
  refine gc_astore0_n (r := (r5.1)) d_GC_desk_11 (by decide) hc ?_
  replace hc := ag_cs (i := 1) (v := ag_rf (r5.1)) hc (ag_cat_rf _)
  refine gc_aload_n (r := ((r5.1))) d_GC_desk_12 rfl ?_
  refine gc_ifnonnull (r := ((r5.1))) d_GC_desk_13 rfl (fun q => ?_) (fun q => ?_)
  · replace hyp := md_ifn q hyp
    refine gc_aload_n (r := (some (a))) d_GC_desk_24 rfl ?_
    obtain ⟨g10, eg10, hyp⟩ := md_bd hyp
    refine gc_getr (r := (some (a))) d_GC_desk_25 fr_GC_33 eg10 ?_
    obtain ⟨g11, eg11, hyp⟩ := md_bd hyp
    refine gc_getr (r := (g10)) d_GC_desk_28 fr_GC_82 eg11 ?_
    obtain ⟨a12, ea12, hyp⟩ := md_bd hyp
    obtain ⟨r12, er12, hyp⟩ := md_bd hyp
    refine gc_callf (r := (g11)) (as := []) d_GC_desk_31 il_GC_85 ea12 (Nat.le_of_ble_eq_true rfl) (w_AL_size hC (d := d) (by omega) er12) (fun v12 h12 q12 => ?_)
    obtain ⟨rfl, rfl⟩ := q12
    refine ag_bipush d_GC_desk_36 ?_
    refine ag_icmp_lt d_GC_desk_38 rfl (fun q => ?_) (fun q => ?_)
    · replace hyp := md_ifp q hyp
      refine gc_aload_n (r := (some (a))) d_GC_desk_49 rfl ?_
      refine gc_aload_n (r := ((r5.1))) d_GC_desk_50 rfl ?_
      refine gc_aload_n (r := (some (a))) d_GC_desk_51 rfl ?_
      obtain ⟨g18, eg18, hyp⟩ := md_bd hyp
      refine gc_getr (r := (some (a))) d_GC_desk_52 fr_GC_33 eg18 ?_
      obtain ⟨a19, ea19, hyp⟩ := md_bd hyp
      obtain ⟨r19, er19, hyp⟩ := md_bd hyp
      refine gc_callv (r := (some (a))) (as := [ag_rf ((r5.1)), ag_rf (g18)]) d_GC_desk_55 ml_GC_94 gw_589 rfl sl_GC_moveLine ea19 (Nat.le_of_ble_eq_true rfl) (w_GC_moveLine hC (d := d) (by omega) er19) (fun v19 h19 q19 => ?_)
      obtain ⟨rfl, rfl⟩ := q19
      cases hyp
      exact ag_iret d_GC_desk_58 rfl rfl ⟨rfl, rfl⟩
    · replace hyp := md_ifn q hyp
      obtain ⟨q21, hyp⟩ := md_ifs hyp
      cases hyp
      exact ag_throw (ci := 13) (names := gc_sup) d_GC_desk_41 d_GC_desk_44 d_GC_desk_45 d_GC_desk_48 rfl gw_572 gw_573 gw_22 rfl (by decide +kernel) (by decide +kernel) xw_GC_93 (by decide) htr (Nat.le_of_ble_eq_true rfl) (by rw [hC.1]; exact q21.1) (by rw [hC.2]; exact q21.2) ⟨rfl, rfl⟩
  · replace hyp := md_ifp q hyp
    obtain ⟨q22, hyp⟩ := md_ifs hyp
    cases hyp
    exact ag_throw (ci := 12) (names := gc_sup) d_GC_desk_16 d_GC_desk_19 d_GC_desk_20 d_GC_desk_23 rfl gw_493 gw_494 gw_20 rfl (by decide +kernel) (by decide +kernel) xw_GC_73 (by decide) htr (Nat.le_of_ble_eq_true rfl) (by rw [hC.1]; exact q22.1) (by rw [hC.2]; exact q22.2) ⟨rfl, rfl⟩
theorem w_GC_desk {l : Launch} {G : ag_G} {d N : Nat} {C : Nat × Nat} (hC : ag_cN G = C.1 ∧ ag_cS G = C.2) (htr : ∀ e : Env, l.admits e → e.platform.stackTraces = false) (hH : 21 + 1 ≤ d) {a : Nat} {h : ag_H} {x : Int32} {h' : ag_H} (hyp : fn_GC_desk N C a h = some (.inl x, h')) : ag_Met gc_P l G m_GC_desk d [.ref a] h (fun v h'' => v = some (.int x) ∧ h'' = h') := by
  obtain ⟨d, rfl, hG⟩ := md_dd hH
  exact ag_met (by decide) rfl (Nat.le_of_ble_eq_true rfl) (ag_dr (ag_d1 rfl ag_d0) (w_GC_desk_0 hC htr hG hyp))
theorem t_GC_desk {l : Launch} {G : ag_G} {d N : Nat} {C : Nat × Nat} (hC : ag_cN G = C.1 ∧ ag_cS G = C.2) (htr : ∀ e : Env, l.admits e → e.platform.stackTraces = false) (hH : 21 + 1 ≤ d) {a : Nat} {h : ag_H} {x : Nat} {h' : ag_H} (hyp : fn_GC_desk N C a h = some (.inr x, h')) : ag_MetT gc_P l G m_GC_desk d [.ref a] h (fun x' h'' => x' = x ∧ h'' = h') := by
  obtain ⟨d, rfl, hG⟩ := md_dd hH
  exact ag_metT (by decide) rfl (Nat.le_of_ble_eq_true rfl) (ag_dr (ag_d1 rfl ag_d0) (w_GC_desk_0 hC htr hG hyp))
def fn_GC_isRoot_15 (N : Nat) (C : Nat × Nat) (s0 : Int32) (h : ag_H) : Option ((Int32) × ag_H) := if md_01 (s0) = true then (some ((s0), h)) else none
def fn_GC_isRoot_14 (N : Nat) (C : Nat × Nat) (h : ag_H) : Option ((Int32) × ag_H) := fn_GC_isRoot_15 N C (Int32.ofInt 0) h
def fn_GC_isRoot_0 (N : Nat) (C : Nat × Nat) (x0 : Int32) (h : ag_H) : Option ((Int32) × ag_H) := if (x0) < (Int32.ofInt 1) then (fn_GC_isRoot_14 N C  h) else (if (Int32.ofInt 3) < (x0) then (fn_GC_isRoot_14 N C  h) else (fn_GC_isRoot_15 N C (Int32.ofInt 1) h))
def fn_GC_isRoot (N : Nat) (C : Nat × Nat) (p0 : Int32) (h : ag_H) : Option ((Int32) × ag_H) := fn_GC_isRoot_0 N C p0 h
theorem w_GC_isRoot_15 {l : Launch} {G : ag_G} {d N : Nat} {C : Nat × Nat} (hC : ag_cN G = C.1 ∧ ag_cS G = C.2) {s0 : Int32} {h : ag_H} {res : (Int32) × ag_H} (hyp : fn_GC_isRoot_15 N C s0 h = some res) : ag_ev gc_P l G m_GC_isRoot (d) (ag_ret gc_P G (fun v h' => v = some (.int res.1) ∧ h' = res.2)) 15 [] [.int (s0)] h := by
  unfold fn_GC_isRoot_15 at hyp
  have hc : ag_C1 [] := ag_c0
  obtain ⟨q1, hyp⟩ := md_ifs hyp
  cases hyp
  exact ag_iret d_GC_isRoot_15 rfl (md_01n q1) ⟨rfl, rfl⟩
theorem w_GC_isRoot_14 {l : Launch} {G : ag_G} {d N : Nat} {C : Nat × Nat} (hC : ag_cN G = C.1 ∧ ag_cS G = C.2) {h : ag_H} {res : (Int32) × ag_H} (hyp : fn_GC_isRoot_14 N C h = some res) : ag_ev gc_P l G m_GC_isRoot (d) (ag_ret gc_P G (fun v h' => v = some (.int res.1) ∧ h' = res.2)) 14 [] [] h := by
  unfold fn_GC_isRoot_14 at hyp
  have hc : ag_C1 [] := ag_c0
  refine ag_iconst d_GC_isRoot_14 ?_
  exact ag_dr ag_d0 (w_GC_isRoot_15 hC hyp)
theorem w_GC_isRoot_0 {l : Launch} {G : ag_G} {d N : Nat} {C : Nat × Nat} (hC : ag_cN G = C.1 ∧ ag_cS G = C.2) {x0 : Int32} {h : ag_H} {res : (Int32) × ag_H} (hyp : fn_GC_isRoot_0 N C x0 h = some res) : ag_ev gc_P l G m_GC_isRoot (d) (ag_ret gc_P G (fun v h' => v = some (.int res.1) ∧ h' = res.2)) 0 [(0, .int (x0))] [] h := by
  unfold fn_GC_isRoot_0 at hyp
  have hc : ag_C1 [(0, .int (x0))] := (ag_c1 rfl ag_c0)
  refine ag_iload_n d_GC_isRoot_0 rfl ?_
  refine ag_iconst d_GC_isRoot_1 ?_
  refine ag_icmp_lt d_GC_isRoot_2 rfl (fun q => ?_) (fun q => ?_)
  · replace hyp := md_ifp q hyp
    exact ag_dr ag_d0 (w_GC_isRoot_14 hC hyp)
  · replace hyp := md_ifn q hyp
    refine ag_iload_n d_GC_isRoot_5 rfl ?_
    refine ag_iconst d_GC_isRoot_6 ?_
    refine ag_icmp_gt d_GC_isRoot_7 rfl (fun q => ?_) (fun q => ?_)
    · replace hyp := md_ifp q hyp
      exact ag_dr ag_d0 (w_GC_isRoot_14 hC hyp)
    · replace hyp := md_ifn q hyp
      refine ag_iconst d_GC_isRoot_10 ?_
      refine ag_goto d_GC_isRoot_11 rfl ?_
      exact ag_dr ag_d0 (w_GC_isRoot_15 hC hyp)
theorem w_GC_isRoot {l : Launch} {G : ag_G} {d N : Nat} {C : Nat × Nat} (hC : ag_cN G = C.1 ∧ ag_cS G = C.2) (hH : 0 ≤ d) {p0 : Int32} {h : ag_H} {res : (Int32) × ag_H} (hyp : fn_GC_isRoot N C p0 h = some res) : ag_Met gc_P l G m_GC_isRoot d [.int (p0)] h (fun v h' => v = some (.int res.1) ∧ h' = res.2) := by
  exact ag_met (by decide) rfl (Nat.le_of_ble_eq_true rfl) (ag_dr (ag_d1 rfl ag_d0) (w_GC_isRoot_0 hC hyp))
def fn_Tk_init_0 (N : Nat) (C : Nat × Nat) (a : Nat) (h : ag_H) : Option ((Int32) × ag_H) := if h.1 + 1 ≤ C.1 ∧ h.2.1 + 3 ≤ C.2 then ((fn_AL_init N C (h.1)  (ag_nw h 3 (.inr (11, [.null, .int 0, .int 0])))).bind fun r6 => (ag_pf r6.2 (ag_rf (some (a))) 8 0 (.object "java/util/List") (.ref (h.1))).bind fun h7 => some (0, h7)) else none
def fn_Tk_init (N : Nat) (C : Nat × Nat) (a : Nat) (h : ag_H) : Option ((Int32) × ag_H) := fn_Tk_init_0 N C a h
theorem w_Tk_init_0 {l : Launch} {G : ag_G} {d N : Nat} {C : Nat × Nat} {a : Nat} (hC : ag_cN G = C.1 ∧ ag_cS G = C.2) (hH : 2 ≤ d) {h : ag_H} {res : (Int32) × ag_H} (hyp : fn_Tk_init_0 N C a h = some res) : ag_ev gc_P l G m_Tk_init (d + 1) (ag_ret gc_P G (fun v h' => v = none ∧ h' = res.2)) 0 [(0, .ref a)] [] h := by
  unfold fn_Tk_init_0 at hyp
  have hc : ag_C1 [(0, .ref a)] := (ag_c1 rfl ag_c0)
  refine gc_aload_n (r := (some (a))) d_Tk_init_0 rfl ?_
  refine ag_obji (a := a) d_Tk_init_1 gw_615 gw_34 gw_35 (Nat.le_of_ble_eq_true rfl) ?_
  refine gc_aload_n (r := (some (a))) d_Tk_init_4 rfl ?_
  obtain ⟨q4, hyp⟩ := md_ifs hyp
  refine gc_new (ci := 11) hC d_Tk_init_5 gw_616 gw_114 gw_9 rfl nf_AL q4 ?_
  refine ag_dup d_Tk_init_8 rfl ?_
  obtain ⟨r6, er6, hyp⟩ := md_bd hyp
  refine ag_calli (a := h.1) (as := []) d_Tk_init_9 ml_Tk_9 gw_116 rfl rfl (Nat.le_of_ble_eq_true rfl) (w_AL_init hC (d := d) (by omega) er6) (fun v6 h6 q6 => ?_)
  obtain ⟨rfl, rfl⟩ := q6
  obtain ⟨h7, eh7, hyp⟩ := md_bd hyp
  refine gc_putf (r := (some (a))) d_Tk_init_12 fl_Tk_10 (fun _ => rfl) eh7 ?_
  cases hyp
  exact ag_vret d_Tk_init_15 rfl ⟨rfl, rfl⟩
theorem w_Tk_init {l : Launch} {G : ag_G} {d N : Nat} {C : Nat × Nat} (hC : ag_cN G = C.1 ∧ ag_cS G = C.2) (hH : 2 + 1 ≤ d) {a : Nat} {h : ag_H} {res : (Int32) × ag_H} (hyp : fn_Tk_init N C a h = some res) : ag_Met gc_P l G m_Tk_init d [.ref a] h (fun v h' => v = none ∧ h' = res.2) := by
  obtain ⟨d, rfl, hG⟩ := md_dd hH
  exact ag_met (by decide) rfl (Nat.le_of_ble_eq_true rfl) (ag_dr (ag_d1 rfl ag_d0) (w_Tk_init_0 hC hG hyp))
def fn_GC_newKey_0 (N : Nat) (C : Nat × Nat) (a : Nat) (h : ag_H) : Option ((Int32) × ag_H) := (ag_gi h (some (a)) 0 7).bind fun g3 => (ag_pf h (ag_rf (some (a))) 0 7 .int (.int ((g3) + (Int32.ofInt 1)))).bind fun h6 => (ag_gi h6 (some (a)) 0 7).bind fun g8 => some ((g8), h6)
def fn_GC_newKey (N : Nat) (C : Nat × Nat) (a : Nat) (h : ag_H) : Option ((Int32) × ag_H) := fn_GC_newKey_0 N C a h
theorem w_GC_newKey_0 {l : Launch} {G : ag_G} {d N : Nat} {C : Nat × Nat} {a : Nat} (hC : ag_cN G = C.1 ∧ ag_cS G = C.2) {h : ag_H} {res : (Int32) × ag_H} (hyp : fn_GC_newKey_0 N C a h = some res) : ag_ev gc_P l G m_GC_newKey (d) (ag_ret gc_P G (fun v h' => v = some (.int res.1) ∧ h' = res.2)) 0 [(0, .ref a)] [] h := by
  unfold fn_GC_newKey_0 at hyp
  have hc : ag_C1 [(0, .ref a)] := (ag_c1 rfl ag_c0)
  refine gc_aload_n (r := (some (a))) d_GC_newKey_0 rfl ?_
  refine ag_dup d_GC_newKey_1 rfl ?_
  obtain ⟨g3, eg3, hyp⟩ := md_bd hyp
  refine gc_geti (r := (some (a))) d_GC_newKey_2 fr_GC_50 eg3 ?_
  refine ag_iconst d_GC_newKey_5 ?_
  refine ag_iadd d_GC_newKey_6 ?_
  obtain ⟨h6, eh6, hyp⟩ := md_bd hyp
  refine gc_putf (r := (some (a))) d_GC_newKey_7 fl_GC_50 (fun q => by cases q) eh6 ?_
  refine gc_aload_n (r := (some (a))) d_GC_newKey_10 rfl ?_
  obtain ⟨g8, eg8, hyp⟩ := md_bd hyp
  refine gc_geti (r := (some (a))) d_GC_newKey_11 fr_GC_50 eg8 ?_
  cases hyp
  exact ag_iret d_GC_newKey_14 rfl rfl ⟨rfl, rfl⟩
theorem w_GC_newKey {l : Launch} {G : ag_G} {d N : Nat} {C : Nat × Nat} (hC : ag_cN G = C.1 ∧ ag_cS G = C.2) (hH : 0 ≤ d) {a : Nat} {h : ag_H} {res : (Int32) × ag_H} (hyp : fn_GC_newKey N C a h = some res) : ag_Met gc_P l G m_GC_newKey d [.ref a] h (fun v h' => v = some (.int res.1) ∧ h' = res.2) := by
  exact ag_met (by decide) rfl (Nat.le_of_ble_eq_true rfl) (ag_dr (ag_d1 rfl ag_d0) (w_GC_newKey_0 hC hyp))
def fn_Lk_init_0 (N : Nat) (C : Nat × Nat) (a : Nat) (x1 : Int32) (x2 : Int32) (x3 : Int32) (x4 : Int32) (x5 : Int32) (h : ag_H) : Option ((Int32) × ag_H) := (ag_pf h (ag_rf (some (a))) 9 0 .int (.int (x1))).bind fun h5 => (ag_pf h5 (ag_rf (some (a))) 9 1 .int (.int (x2))).bind fun h8 => (ag_pf h8 (ag_rf (some (a))) 9 2 .int (.int (x3))).bind fun h11 => (ag_pf h11 (ag_rf (some (a))) 9 3 .int (.int (x4))).bind fun h14 => (ag_pf h14 (ag_rf (some (a))) 9 4 .int (.int (x5))).bind fun h17 => some (0, h17)
def fn_Lk_init (N : Nat) (C : Nat × Nat) (a : Nat) (p1 : Int32) (p2 : Int32) (p3 : Int32) (p4 : Int32) (p5 : Int32) (h : ag_H) : Option ((Int32) × ag_H) := fn_Lk_init_0 N C a p1 p2 p3 p4 p5 h
theorem w_Lk_init_0 {l : Launch} {G : ag_G} {d N : Nat} {C : Nat × Nat} {a : Nat} (hC : ag_cN G = C.1 ∧ ag_cS G = C.2) {x1 : Int32} {x2 : Int32} {x3 : Int32} {x4 : Int32} {x5 : Int32} {h : ag_H} {res : (Int32) × ag_H} (hyp : fn_Lk_init_0 N C a x1 x2 x3 x4 x5 h = some res) : ag_ev gc_P l G m_Lk_init (d) (ag_ret gc_P G (fun v h' => v = none ∧ h' = res.2)) 0 [(0, .ref a), (1, .int (x1)), (2, .int (x2)), (3, .int (x3)), (4, .int (x4)), (5, .int (x5))] [] h := by
  unfold fn_Lk_init_0 at hyp
  have hc : ag_C1 [(0, .ref a), (1, .int (x1)), (2, .int (x2)), (3, .int (x3)), (4, .int (x4)), (5, .int (x5))] := (ag_c1 rfl (ag_c1 rfl (ag_c1 rfl (ag_c1 rfl (ag_c1 rfl (ag_c1 rfl ag_c0))))))
  refine gc_aload_n (r := (some (a))) d_Lk_init_0 rfl ?_
  refine ag_obji (a := a) d_Lk_init_1 gw_648 gw_34 gw_35 (Nat.le_of_ble_eq_true rfl) ?_
  refine gc_aload_n (r := (some (a))) d_Lk_init_4 rfl ?_
  refine ag_iload_n d_Lk_init_5 rfl ?_
  obtain ⟨h5, eh5, hyp⟩ := md_bd hyp
  refine gc_putf (r := (some (a))) d_Lk_init_6 fl_Lk_7 (fun _ => rfl) eh5 ?_
  refine gc_aload_n (r := (some (a))) d_Lk_init_9 rfl ?_
  refine ag_iload_n d_Lk_init_10 rfl ?_
  obtain ⟨h8, eh8, hyp⟩ := md_bd hyp
  refine gc_putf (r := (some (a))) d_Lk_init_11 fl_Lk_13 (fun _ => rfl) eh8 ?_
  refine gc_aload_n (r := (some (a))) d_Lk_init_14 rfl ?_
  refine ag_iload_n d_Lk_init_15 rfl ?_
  obtain ⟨h11, eh11, hyp⟩ := md_bd hyp
  refine gc_putf (r := (some (a))) d_Lk_init_16 fl_Lk_16 (fun _ => rfl) eh11 ?_
  refine gc_aload_n (r := (some (a))) d_Lk_init_19 rfl ?_
  refine ag_iload d_Lk_init_20 rfl ?_
  obtain ⟨h14, eh14, hyp⟩ := md_bd hyp
  refine gc_putf (r := (some (a))) d_Lk_init_22 fl_Lk_19 (fun _ => rfl) eh14 ?_
  refine gc_aload_n (r := (some (a))) d_Lk_init_25 rfl ?_
  refine ag_iload d_Lk_init_26 rfl ?_
  obtain ⟨h17, eh17, hyp⟩ := md_bd hyp
  refine gc_putf (r := (some (a))) d_Lk_init_28 fl_Lk_22 (fun _ => rfl) eh17 ?_
  cases hyp
  exact ag_vret d_Lk_init_31 rfl ⟨rfl, rfl⟩
theorem w_Lk_init {l : Launch} {G : ag_G} {d N : Nat} {C : Nat × Nat} (hC : ag_cN G = C.1 ∧ ag_cS G = C.2) (hH : 0 ≤ d) {a : Nat} {p1 : Int32} {p2 : Int32} {p3 : Int32} {p4 : Int32} {p5 : Int32} {h : ag_H} {res : (Int32) × ag_H} (hyp : fn_Lk_init N C a p1 p2 p3 p4 p5 h = some res) : ag_Met gc_P l G m_Lk_init d [.ref a, .int (p1), .int (p2), .int (p3), .int (p4), .int (p5)] h (fun v h' => v = none ∧ h' = res.2) := by
  exact ag_met (by decide) rfl (Nat.le_of_ble_eq_true rfl) (ag_dr (ag_d1 rfl (ag_d1 rfl (ag_d1 rfl (ag_d1 rfl (ag_d1 rfl (ag_d1 rfl ag_d0)))))) (w_Lk_init_0 hC hyp))
def fn_Tk_openWith_0 (N : Nat) (C : Nat × Nat) (a : Nat) (x1 : Int32) (h : ag_H) : Option ((Int32) × ag_H) := (ag_pf h (ag_rf (some (a))) 8 1 .boolean (.int (Int32.ofInt 0))).bind fun h3 => (ag_pf h3 (ag_rf (some (a))) 8 2 .int (.int (x1))).bind fun h6 => some (0, h6)
def fn_Tk_openWith (N : Nat) (C : Nat × Nat) (a : Nat) (p1 : Int32) (h : ag_H) : Option ((Int32) × ag_H) := fn_Tk_openWith_0 N C a p1 h
theorem w_Tk_openWith_0 {l : Launch} {G : ag_G} {d N : Nat} {C : Nat × Nat} {a : Nat} (hC : ag_cN G = C.1 ∧ ag_cS G = C.2) {x1 : Int32} {h : ag_H} {res : (Int32) × ag_H} (hyp : fn_Tk_openWith_0 N C a x1 h = some res) : ag_ev gc_P l G m_Tk_openWith (d) (ag_ret gc_P G (fun v h' => v = none ∧ h' = res.2)) 0 [(0, .ref a), (1, .int (x1))] [] h := by
  unfold fn_Tk_openWith_0 at hyp
  have hc : ag_C1 [(0, .ref a), (1, .int (x1))] := (ag_c1 rfl (ag_c1 rfl ag_c0))
  refine gc_aload_n (r := (some (a))) d_Tk_openWith_0 rfl ?_
  refine ag_iconst d_Tk_openWith_1 ?_
  obtain ⟨h3, eh3, hyp⟩ := md_bd hyp
  refine gc_putf (r := (some (a))) d_Tk_openWith_2 fl_Tk_33 (fun q => by cases q) eh3 ?_
  refine gc_aload_n (r := (some (a))) d_Tk_openWith_5 rfl ?_
  refine ag_iload_n d_Tk_openWith_6 rfl ?_
  obtain ⟨h6, eh6, hyp⟩ := md_bd hyp
  refine gc_putf (r := (some (a))) d_Tk_openWith_7 fl_Tk_37 (fun q => by cases q) eh6 ?_
  cases hyp
  exact ag_vret d_Tk_openWith_10 rfl ⟨rfl, rfl⟩
theorem w_Tk_openWith {l : Launch} {G : ag_G} {d N : Nat} {C : Nat × Nat} (hC : ag_cN G = C.1 ∧ ag_cS G = C.2) (hH : 0 ≤ d) {a : Nat} {p1 : Int32} {h : ag_H} {res : (Int32) × ag_H} (hyp : fn_Tk_openWith N C a p1 h = some res) : ag_Met gc_P l G m_Tk_openWith d [.ref a, .int (p1)] h (fun v h' => v = none ∧ h' = res.2) := by
  exact ag_met (by decide) rfl (Nat.le_of_ble_eq_true rfl) (ag_dr (ag_d1 rfl (ag_d1 rfl ag_d0)) (w_Tk_openWith_0 hC hyp))
def fn_GC_keep_0 (N : Nat) (C : Nat × Nat) (a : Nat) (x1 : Option Nat) (h : ag_H) : Option ((Int32) × ag_H) := (ag_gr h (some (a)) 0 5).bind fun g2 => (ag_rc h (g2) 11).bind fun a4 => (fn_AL_add N C a4 (x1) h).bind fun r4 => (ag_gr r4.2 (some (a)) 0 5).bind fun g7 => (ag_rc r4.2 (g7) 11).bind fun a8 => (fn_AL_size N C a8  r4.2).bind fun r8 => some (((r8.1) - (Int32.ofInt 1)), r8.2)
def fn_GC_keep (N : Nat) (C : Nat × Nat) (a : Nat) (p1 : Option Nat) (h : ag_H) : Option ((Int32) × ag_H) := fn_GC_keep_0 N C a p1 h
theorem w_GC_keep_0 {l : Launch} {G : ag_G} {d N : Nat} {C : Nat × Nat} {a : Nat} (hC : ag_cN G = C.1 ∧ ag_cS G = C.2) (hH : 5 ≤ d) {x1 : Option Nat} {h : ag_H} {res : (Int32) × ag_H} (hyp : fn_GC_keep_0 N C a x1 h = some res) : ag_ev gc_P l G m_GC_keep (d + 1) (ag_ret gc_P G (fun v h' => v = some (.int res.1) ∧ h' = res.2)) 0 [(0, .ref a), (1, ag_rf (x1))] [] h := by
  unfold fn_GC_keep_0 at hyp
  have hc : ag_C1 [(0, .ref a), (1, ag_rf (x1))] := (ag_c1 rfl (ag_c1 (ag_cat_rf _) ag_c0))
  refine gc_aload_n (r := (some (a))) d_GC_keep_0 rfl ?_
  obtain ⟨g2, eg2, hyp⟩ := md_bd hyp
  refine gc_getr (r := (some (a))) d_GC_keep_1 fr_GC_44 eg2 ?_
  refine gc_aload_n (r := (x1)) d_GC_keep_4 rfl ?_
  obtain ⟨a4, ea4, hyp⟩ := md_bd hyp
  obtain ⟨r4, er4, hyp⟩ := md_bd hyp
  refine gc_callf (r := (g2)) (as := [ag_rf (x1)]) d_GC_keep_5 il_GC_224 ea4 (Nat.le_of_ble_eq_true rfl) (w_AL_add hC (d := d) (by omega) er4) (fun v4 h4 q4 => ?_)
  obtain ⟨rfl, rfl⟩ := q4
  refine ag_pop d_GC_keep_10 rfl ?_
  refine gc_aload_n (r := (some (a))) d_GC_keep_11 rfl ?_
  obtain ⟨g7, eg7, hyp⟩ := md_bd hyp
  refine gc_getr (r := (some (a))) d_GC_keep_12 fr_GC_44 eg7 ?_
  obtain ⟨a8, ea8, hyp⟩ := md_bd hyp
  obtain ⟨r8, er8, hyp⟩ := md_bd hyp
  refine gc_callf (r := (g7)) (as := []) d_GC_keep_15 il_GC_85 ea8 (Nat.le_of_ble_eq_true rfl) (w_AL_size hC (d := d) (by omega) er8) (fun v8 h8 q8 => ?_)
  obtain ⟨rfl, rfl⟩ := q8
  refine ag_iconst d_GC_keep_20 ?_
  refine ag_isub d_GC_keep_21 ?_
  cases hyp
  exact ag_iret d_GC_keep_22 rfl rfl ⟨rfl, rfl⟩
theorem w_GC_keep {l : Launch} {G : ag_G} {d N : Nat} {C : Nat × Nat} (hC : ag_cN G = C.1 ∧ ag_cS G = C.2) (hH : 5 + 1 ≤ d) {a : Nat} {p1 : Option Nat} {h : ag_H} {res : (Int32) × ag_H} (hyp : fn_GC_keep N C a p1 h = some res) : ag_Met gc_P l G m_GC_keep d [.ref a, ag_rf (p1)] h (fun v h' => v = some (.int res.1) ∧ h' = res.2) := by
  obtain ⟨d, rfl, hG⟩ := md_dd hH
  exact ag_met0 (by decide) rfl (ag_v1 rfl (ag_v1 (ag_cat_rf _) ag_v0)) (Nat.le_of_ble_eq_true rfl) (ag_dr (ag_d1 rfl (ag_d1 rfl ag_d0)) (w_GC_keep_0 hC hG hyp))
def fn_GC_keepWithNewLink_0 (N : Nat) (C : Nat × Nat) (a : Nat) (x1 : Option Nat) (x2 : Int32) (h : ag_H) : Option ((Int32) × ag_H) := (ag_gr h (some (a)) 0 4).bind fun g2 => (ag_gr h (some (a)) 0 6).bind fun g4 => (ag_rc h (g2) 11).bind fun a5 => (fn_AL_add N C a5 (g4) h).bind fun r5 => if r5.2.1 + 1 ≤ C.1 ∧ r5.2.2.1 + 1 ≤ C.2 then ((fn_Bk_init N C (r5.2.1)  (ag_nw r5.2 1 (.inr (5, [.null])))).bind fun r10 => (ag_pf r10.2 (ag_rf (some (a))) 0 6 (.object "GrantChain$Block") (.ref (r5.2.1))).bind fun h11 => (ag_gr h11 (some (a)) 0 4).bind fun g13 => (ag_rc h11 (g13) 11).bind fun a14 => (fn_AL_size N C a14  h11).bind fun r14 => (ag_rc r14.2 (some (a)) 0).bind fun a17 => (fn_GC_newKey N C a17  r14.2).bind fun r17 => (ag_gr r17.2 (x1) 8 0).bind fun g20 => if r17.2.1 + 1 ≤ C.1 ∧ r17.2.2.1 + 5 ≤ C.2 then ((fn_Lk_init N C (r17.2.1) (r14.1) (r17.1) (x2) (r14.1) (r17.1) (ag_nw r17.2 5 (.inr (9, [.int 0, .int 0, .int 0, .int 0, .int 0])))).bind fun r28 => (ag_rc r28.2 (g20) 11).bind fun a29 => (fn_AL_add N C a29 (some (r17.2.1)) r28.2).bind fun r29 => (ag_rc r29.2 (x1) 8).bind fun a33 => (fn_Tk_openWith N C a33 (r17.1) r29.2).bind fun r33 => (ag_rc r33.2 (some (a)) 0).bind fun a36 => (fn_GC_keep N C a36 (x1) r33.2).bind fun r36 => some ((r36.1), r36.2)) else none) else none
def fn_GC_keepWithNewLink (N : Nat) (C : Nat × Nat) (a : Nat) (p1 : Option Nat) (p2 : Int32) (h : ag_H) : Option ((Int32) × ag_H) := fn_GC_keepWithNewLink_0 N C a p1 p2 h
theorem w_GC_keepWithNewLink_0 {l : Launch} {G : ag_G} {d N : Nat} {C : Nat × Nat} {a : Nat} (hC : ag_cN G = C.1 ∧ ag_cS G = C.2) (hH : 6 ≤ d) {x1 : Option Nat} {x2 : Int32} {h : ag_H} {res : (Int32) × ag_H} (hyp : fn_GC_keepWithNewLink_0 N C a x1 x2 h = some res) : ag_ev gc_P l G m_GC_keepWithNewLink (d + 1) (ag_ret gc_P G (fun v h' => v = some (.int res.1) ∧ h' = res.2)) 0 [(0, .ref a), (1, ag_rf (x1)), (2, .int (x2))] [] h := by
  unfold fn_GC_keepWithNewLink_0 at hyp
  have hc : ag_C1 [(0, .ref a), (1, ag_rf (x1)), (2, .int (x2))] := (ag_c1 rfl (ag_c1 (ag_cat_rf _) (ag_c1 rfl ag_c0)))
  refine gc_aload_n (r := (some (a))) d_GC_keepWithNewLink_0 rfl ?_
  obtain ⟨g2, eg2, hyp⟩ := md_bd hyp
  refine gc_getr (r := (some (a))) d_GC_keepWithNewLink_1 fr_GC_40 eg2 ?_
  refine gc_aload_n (r := (some (a))) d_GC_keepWithNewLink_4 rfl ?_
  obtain ⟨g4, eg4, hyp⟩ := md_bd hyp
  refine gc_getr (r := (some (a))) d_GC_keepWithNewLink_5 fr_GC_47 eg4 ?_
  obtain ⟨a5, ea5, hyp⟩ := md_bd hyp
  obtain ⟨r5, er5, hyp⟩ := md_bd hyp
  refine gc_callf (r := (g2)) (as := [ag_rf (g4)]) d_GC_keepWithNewLink_8 il_GC_224 ea5 (Nat.le_of_ble_eq_true rfl) (w_AL_add hC (d := d) (by omega) er5) (fun v5 h5 q5 => ?_)
  obtain ⟨rfl, rfl⟩ := q5
  refine ag_pop d_GC_keepWithNewLink_13 rfl ?_
  refine gc_aload_n (r := (some (a))) d_GC_keepWithNewLink_14 rfl ?_
  obtain ⟨q8, hyp⟩ := md_ifs hyp
  refine gc_new (ci := 5) hC d_GC_keepWithNewLink_15 gw_195 gw_108 gw_6 rfl nf_Bk q8 ?_
  refine ag_dup d_GC_keepWithNewLink_18 rfl ?_
  obtain ⟨r10, er10, hyp⟩ := md_bd hyp
  refine ag_calli (a := r5.2.1) (as := []) d_GC_keepWithNewLink_19 ml_GC_32 gw_110 rfl rfl (Nat.le_of_ble_eq_true rfl) (w_Bk_init hC (d := d) (by omega) er10) (fun v10 h10 q10 => ?_)
  obtain ⟨rfl, rfl⟩ := q10
  obtain ⟨h11, eh11, hyp⟩ := md_bd hyp
  refine gc_putf (r := (some (a))) d_GC_keepWithNewLink_22 fl_GC_47 (fun q => by cases q) eh11 ?_
  refine gc_aload_n (r := (some (a))) d_GC_keepWithNewLink_25 rfl ?_
  obtain ⟨g13, eg13, hyp⟩ := md_bd hyp
  refine gc_getr (r := (some (a))) d_GC_keepWithNewLink_26 fr_GC_40 eg13 ?_
  obtain ⟨a14, ea14, hyp⟩ := md_bd hyp
  obtain ⟨r14, er14, hyp⟩ := md_bd hyp
  refine gc_callf (r := (g13)) (as := []) d_GC_keepWithNewLink_29 il_GC_85 ea14 (Nat.le_of_ble_eq_true rfl) (w_AL_size hC (d := d) (by omega) er14) (fun v14 h14 q14 => ?_)
  obtain ⟨rfl, rfl⟩ := q14
  refine gc_istore_n d_GC_keepWithNewLink_34 (by decide) hc ?_
  replace hc := ag_cs (i := 3) (v := .int (r14.1)) hc rfl
  refine gc_aload_n (r := (some (a))) d_GC_keepWithNewLink_35 rfl ?_
  obtain ⟨a17, ea17, hyp⟩ := md_bd hyp
  obtain ⟨r17, er17, hyp⟩ := md_bd hyp
  refine gc_callv (r := (some (a))) (as := []) d_GC_keepWithNewLink_36 ml_GC_170 gw_641 rfl sl_GC_newKey ea17 (Nat.le_of_ble_eq_true rfl) (w_GC_newKey hC (d := d) (by omega) er17) (fun v17 h17 q17 => ?_)
  obtain ⟨rfl, rfl⟩ := q17
  refine gc_istore d_GC_keepWithNewLink_39 (by decide) hc ?_
  replace hc := ag_cs (i := 4) (v := .int (r17.1)) hc rfl
  refine gc_aload_n (r := (x1)) d_GC_keepWithNewLink_41 rfl ?_
  obtain ⟨g20, eg20, hyp⟩ := md_bd hyp
  refine gc_getr (r := (x1)) d_GC_keepWithNewLink_42 fr_GC_126 eg20 ?_
  obtain ⟨q21, hyp⟩ := md_ifs hyp
  refine gc_new (ci := 9) hC d_GC_keepWithNewLink_45 gw_643 gw_644 gw_24 rfl nf_Lk q21 ?_
  refine ag_dup d_GC_keepWithNewLink_48 rfl ?_
  refine ag_iload_n d_GC_keepWithNewLink_49 rfl ?_
  refine ag_iload d_GC_keepWithNewLink_50 rfl ?_
  refine ag_iload_n d_GC_keepWithNewLink_52 rfl ?_
  refine ag_iload_n d_GC_keepWithNewLink_53 rfl ?_
  refine ag_iload d_GC_keepWithNewLink_54 rfl ?_
  obtain ⟨r28, er28, hyp⟩ := md_bd hyp
  refine ag_calli (a := r17.2.1) (as := [.int (r14.1), .int (r17.1), .int (x2), .int (r14.1), .int (r17.1)]) d_GC_keepWithNewLink_56 ml_GC_228 gw_646 rfl rfl (ag_w9 (ag_v1 rfl (ag_v1 (ag_cat_rf _) ag_v0)) (Nat.le_of_ble_eq_true rfl)) (w_Lk_init hC (d := d) (by omega) er28) (fun v28 h28 q28 => ?_)
  obtain ⟨rfl, rfl⟩ := q28
  obtain ⟨a29, ea29, hyp⟩ := md_bd hyp
  obtain ⟨r29, er29, hyp⟩ := md_bd hyp
  refine gc_callf (r := (g20)) (as := [.ref (r17.2.1)]) d_GC_keepWithNewLink_59 il_GC_224 ea29 (Nat.le_of_ble_eq_true rfl) (w_AL_add hC (d := d) (by omega) er29) (fun v29 h29 q29 => ?_)
  obtain ⟨rfl, rfl⟩ := q29
  refine ag_pop d_GC_keepWithNewLink_64 rfl ?_
  refine gc_aload_n (r := (x1)) d_GC_keepWithNewLink_65 rfl ?_
  refine ag_iload d_GC_keepWithNewLink_66 rfl ?_
  obtain ⟨a33, ea33, hyp⟩ := md_bd hyp
  obtain ⟨r33, er33, hyp⟩ := md_bd hyp
  refine gc_callv (r := (x1)) (as := [.int (r17.1)]) d_GC_keepWithNewLink_68 ml_GC_173 gw_673 rfl sl_Tk_openWith ea33 (Nat.le_of_ble_eq_true rfl) (w_Tk_openWith hC (d := d) (by omega) er33) (fun v33 h33 q33 => ?_)
  obtain ⟨rfl, rfl⟩ := q33
  refine gc_aload_n (r := (some (a))) d_GC_keepWithNewLink_71 rfl ?_
  refine gc_aload_n (r := (x1)) d_GC_keepWithNewLink_72 rfl ?_
  obtain ⟨a36, ea36, hyp⟩ := md_bd hyp
  obtain ⟨r36, er36, hyp⟩ := md_bd hyp
  refine gc_callv (r := (some (a))) (as := [ag_rf (x1)]) d_GC_keepWithNewLink_73 ml_GC_139 gw_678 rfl sl_GC_keep ea36 (Nat.le_of_ble_eq_true rfl) (w_GC_keep hC (d := d) (by omega) er36) (fun v36 h36 q36 => ?_)
  obtain ⟨rfl, rfl⟩ := q36
  cases hyp
  exact ag_iret d_GC_keepWithNewLink_76 rfl rfl ⟨rfl, rfl⟩
theorem w_GC_keepWithNewLink {l : Launch} {G : ag_G} {d N : Nat} {C : Nat × Nat} (hC : ag_cN G = C.1 ∧ ag_cS G = C.2) (hH : 6 + 1 ≤ d) {a : Nat} {p1 : Option Nat} {p2 : Int32} {h : ag_H} {res : (Int32) × ag_H} (hyp : fn_GC_keepWithNewLink N C a p1 p2 h = some res) : ag_Met gc_P l G m_GC_keepWithNewLink d [.ref a, ag_rf (p1), .int (p2)] h (fun v h' => v = some (.int res.1) ∧ h' = res.2) := by
  obtain ⟨d, rfl, hG⟩ := md_dd hH
  exact ag_met0 (by decide) rfl (ag_v1 rfl (ag_v1 (ag_cat_rf _) (ag_v1 rfl ag_v0))) (Nat.le_of_ble_eq_true rfl) (ag_dr (ag_d1 rfl (ag_d1 rfl (ag_d1 rfl ag_d0))) (w_GC_keepWithNewLink_0 hC hG hyp))
def fn_GC_issue_0 (N : Nat) (C : Nat × Nat) (a : Nat) (x1 : Int32) (h : ag_H) : Option ((Int32 ⊕ Nat) × ag_H) := (fn_GC_isRoot N C (x1) h).bind fun r2 => if (r2.1) = (0) then (if r2.2.1 + 1 ≤ C.1 ∧ r2.2.2.1 + 6 ≤ C.2 then (some (.inr r2.2.1, ag_nw r2.2 6 (.inr (12, [])))) else none) else ((ag_gr r2.2 (some (a)) 0 5).bind fun g5 => (ag_rc r2.2 (g5) 11).bind fun a6 => (fn_AL_size N C a6  r2.2).bind fun r6 => if (r6.1) < ((Int8.ofInt (16)).toInt32) then (if r6.2.1 + 1 ≤ C.1 ∧ r6.2.2.1 + 4 ≤ C.2 then ((fn_Tk_init N C (r6.2.1)  (ag_nw r6.2 4 (.inr (8, [.null, .int 0, .int 0, .int 0])))).bind fun r12 => (ag_rc r12.2 (some (a)) 0).bind fun a14 => (fn_GC_keepWithNewLink N C a14 (some (r6.2.1)) (x1) r12.2).bind fun r14 => some (.inl (r14.1), r14.2)) else none) else (if r6.2.1 + 1 ≤ C.1 ∧ r6.2.2.1 + 6 ≤ C.2 then (some (.inr r6.2.1, ag_nw r6.2 6 (.inr (13, [])))) else none))
def fn_GC_issue (N : Nat) (C : Nat × Nat) (a : Nat) (p1 : Int32) (h : ag_H) : Option ((Int32 ⊕ Nat) × ag_H) := fn_GC_issue_0 N C a p1 h
theorem w_GC_issue_0 {l : Launch} {G : ag_G} {d N : Nat} {C : Nat × Nat} {a : Nat} (hC : ag_cN G = C.1 ∧ ag_cS G = C.2) (htr : ∀ e : Env, l.admits e → e.platform.stackTraces = false) (hH : 7 ≤ d) {x1 : Int32} {h : ag_H} {res : (Int32 ⊕ Nat) × ag_H} (hyp : fn_GC_issue_0 N C a x1 h = some res) : ag_ev gc_P l G m_GC_issue (d + 1) (ag_out gc_P G res.1 res.2) 0 [(0, .ref a), (1, .int (x1))] [] h := by
  unfold fn_GC_issue_0 at hyp
  have hc : ag_C1 [(0, .ref a), (1, .int (x1))] := (ag_c1 rfl (ag_c1 rfl ag_c0))
  refine ag_iload_n d_GC_issue_0 rfl ?_
  obtain ⟨r2, er2, hyp⟩ := md_bd hyp
  refine ag_calls (as := [.int (x1)]) d_GC_issue_1 ml_GC_101 gw_608 (Nat.le_of_ble_eq_true rfl) (w_GC_isRoot hC (d := d) (by omega) er2) (fun v2 h2 q2 => ?_)
  obtain ⟨rfl, rfl⟩ := q2
  refine ag_if_ne d_GC_issue_4 rfl (fun q => ?_) (fun q => ?_)
  · replace hyp := md_ifn q hyp
    refine gc_aload_n (r := (some (a))) d_GC_issue_15 rfl ?_
    obtain ⟨g5, eg5, hyp⟩ := md_bd hyp
    refine gc_getr (r := (some (a))) d_GC_issue_16 fr_GC_44 eg5 ?_
    obtain ⟨a6, ea6, hyp⟩ := md_bd hyp
    obtain ⟨r6, er6, hyp⟩ := md_bd hyp
    refine gc_callf (r := (g5)) (as := []) d_GC_issue_19 il_GC_85 ea6 (Nat.le_of_ble_eq_true rfl) (w_AL_size hC (d := d) (by omega) er6) (fun v6 h6 q6 => ?_)
    obtain ⟨rfl, rfl⟩ := q6
    refine ag_bipush d_GC_issue_24 ?_
    refine ag_icmp_lt d_GC_issue_26 rfl (fun q => ?_) (fun q => ?_)
    · replace hyp := md_ifp q hyp
      refine gc_aload_n (r := (some (a))) d_GC_issue_37 rfl ?_
      obtain ⟨q10, hyp⟩ := md_ifs hyp
      refine gc_new (ci := 8) hC d_GC_issue_38 gw_610 gw_611 gw_23 rfl nf_Tk q10 ?_
      refine ag_dup d_GC_issue_41 rfl ?_
      obtain ⟨r12, er12, hyp⟩ := md_bd hyp
      refine ag_calli (a := r6.2.1) (as := []) d_GC_issue_42 ml_GC_107 gw_613 rfl rfl (Nat.le_of_ble_eq_true rfl) (w_Tk_init hC (d := d) (by omega) er12) (fun v12 h12 q12 => ?_)
      obtain ⟨rfl, rfl⟩ := q12
      refine ag_iload_n d_GC_issue_45 rfl ?_
      obtain ⟨a14, ea14, hyp⟩ := md_bd hyp
      obtain ⟨r14, er14, hyp⟩ := md_bd hyp
      refine gc_callv (r := (some (a))) (as := [.ref (r6.2.1), .int (x1)]) d_GC_issue_46 ml_GC_108 gw_637 rfl sl_GC_keepWithNewLink ea14 (Nat.le_of_ble_eq_true rfl) (w_GC_keepWithNewLink hC (d := d) (by omega) er14) (fun v14 h14 q14 => ?_)
      obtain ⟨rfl, rfl⟩ := q14
      cases hyp
      exact ag_iret d_GC_issue_49 rfl rfl ⟨rfl, rfl⟩
    · replace hyp := md_ifn q hyp
      obtain ⟨q16, hyp⟩ := md_ifs hyp
      cases hyp
      exact ag_throw (ci := 13) (names := gc_sup) d_GC_issue_29 d_GC_issue_32 d_GC_issue_33 d_GC_issue_36 rfl gw_572 gw_573 gw_22 rfl (by decide +kernel) (by decide +kernel) xw_GC_93 (by decide) htr (Nat.le_of_ble_eq_true rfl) (by rw [hC.1]; exact q16.1) (by rw [hC.2]; exact q16.2) ⟨rfl, rfl⟩
  · replace hyp := md_ifp q hyp
    obtain ⟨q17, hyp⟩ := md_ifs hyp
    cases hyp
    exact ag_throw (ci := 12) (names := gc_sup) d_GC_issue_7 d_GC_issue_10 d_GC_issue_11 d_GC_issue_14 rfl gw_493 gw_494 gw_20 rfl (by decide +kernel) (by decide +kernel) xw_GC_73 (by decide) htr (Nat.le_of_ble_eq_true rfl) (by rw [hC.1]; exact q17.1) (by rw [hC.2]; exact q17.2) ⟨rfl, rfl⟩
theorem w_GC_issue {l : Launch} {G : ag_G} {d N : Nat} {C : Nat × Nat} (hC : ag_cN G = C.1 ∧ ag_cS G = C.2) (htr : ∀ e : Env, l.admits e → e.platform.stackTraces = false) (hH : 7 + 1 ≤ d) {a : Nat} {p1 : Int32} {h : ag_H} {x : Int32} {h' : ag_H} (hyp : fn_GC_issue N C a p1 h = some (.inl x, h')) : ag_Met gc_P l G m_GC_issue d [.ref a, .int (p1)] h (fun v h'' => v = some (.int x) ∧ h'' = h') := by
  obtain ⟨d, rfl, hG⟩ := md_dd hH
  exact ag_met (by decide) rfl (Nat.le_of_ble_eq_true rfl) (ag_dr (ag_d1 rfl (ag_d1 rfl ag_d0)) (w_GC_issue_0 hC htr hG hyp))
theorem t_GC_issue {l : Launch} {G : ag_G} {d N : Nat} {C : Nat × Nat} (hC : ag_cN G = C.1 ∧ ag_cS G = C.2) (htr : ∀ e : Env, l.admits e → e.platform.stackTraces = false) (hH : 7 + 1 ≤ d) {a : Nat} {p1 : Int32} {h : ag_H} {x : Nat} {h' : ag_H} (hyp : fn_GC_issue N C a p1 h = some (.inr x, h')) : ag_MetT gc_P l G m_GC_issue d [.ref a, .int (p1)] h (fun x' h'' => x' = x ∧ h'' = h') := by
  obtain ⟨d, rfl, hG⟩ := md_dd hH
  exact ag_metT (by decide) rfl (Nat.le_of_ble_eq_true rfl) (ag_dr (ag_d1 rfl (ag_d1 rfl ag_d0)) (w_GC_issue_0 hC htr hG hyp))
def fn_GC_isToken_22 (N : Nat) (C : Nat × Nat) (a : Nat) (s0 : Int32) (h : ag_H) : Option ((Int32) × ag_H) := if md_01 (s0) = true then (some ((s0), h)) else none
def fn_GC_isToken_21 (N : Nat) (C : Nat × Nat) (a : Nat) (h : ag_H) : Option ((Int32) × ag_H) := fn_GC_isToken_22 N C a (Int32.ofInt 0) h
def fn_GC_isToken_0 (N : Nat) (C : Nat × Nat) (a : Nat) (x1 : Int32) (h : ag_H) : Option ((Int32) × ag_H) := if (x1) < (0) then (fn_GC_isToken_21 N C a  h) else ((ag_gr h (some (a)) 0 5).bind fun g5 => (ag_rc h (g5) 11).bind fun a6 => (fn_AL_size N C a6  h).bind fun r6 => if (r6.1) ≤ (x1) then (fn_GC_isToken_21 N C a  r6.2) else (fn_GC_isToken_22 N C a (Int32.ofInt 1) r6.2))
def fn_GC_isToken (N : Nat) (C : Nat × Nat) (a : Nat) (p1 : Int32) (h : ag_H) : Option ((Int32) × ag_H) := fn_GC_isToken_0 N C a p1 h
theorem w_GC_isToken_22 {l : Launch} {G : ag_G} {d N : Nat} {C : Nat × Nat} {a : Nat} (hC : ag_cN G = C.1 ∧ ag_cS G = C.2) (hH : 0 ≤ d) {s0 : Int32} {h : ag_H} {res : (Int32) × ag_H} (hyp : fn_GC_isToken_22 N C a s0 h = some res) : ag_ev gc_P l G m_GC_isToken (d + 1) (ag_ret gc_P G (fun v h' => v = some (.int res.1) ∧ h' = res.2)) 22 [(0, .ref a)] [.int (s0)] h := by
  unfold fn_GC_isToken_22 at hyp
  have hc : ag_C1 [(0, .ref a)] := (ag_c1 rfl ag_c0)
  obtain ⟨q1, hyp⟩ := md_ifs hyp
  cases hyp
  exact ag_iret d_GC_isToken_22 rfl (md_01n q1) ⟨rfl, rfl⟩
theorem w_GC_isToken_21 {l : Launch} {G : ag_G} {d N : Nat} {C : Nat × Nat} {a : Nat} (hC : ag_cN G = C.1 ∧ ag_cS G = C.2) (hH : 0 ≤ d) {h : ag_H} {res : (Int32) × ag_H} (hyp : fn_GC_isToken_21 N C a h = some res) : ag_ev gc_P l G m_GC_isToken (d + 1) (ag_ret gc_P G (fun v h' => v = some (.int res.1) ∧ h' = res.2)) 21 [(0, .ref a)] [] h := by
  unfold fn_GC_isToken_21 at hyp
  have hc : ag_C1 [(0, .ref a)] := (ag_c1 rfl ag_c0)
  refine ag_iconst d_GC_isToken_21 ?_
  exact ag_dr (ag_d1 rfl ag_d0) (w_GC_isToken_22 hC hH hyp)
theorem w_GC_isToken_0 {l : Launch} {G : ag_G} {d N : Nat} {C : Nat × Nat} {a : Nat} (hC : ag_cN G = C.1 ∧ ag_cS G = C.2) (hH : 0 ≤ d) {x1 : Int32} {h : ag_H} {res : (Int32) × ag_H} (hyp : fn_GC_isToken_0 N C a x1 h = some res) : ag_ev gc_P l G m_GC_isToken (d + 1) (ag_ret gc_P G (fun v h' => v = some (.int res.1) ∧ h' = res.2)) 0 [(0, .ref a), (1, .int (x1))] [] h := by
  unfold fn_GC_isToken_0 at hyp
  have hc : ag_C1 [(0, .ref a), (1, .int (x1))] := (ag_c1 rfl (ag_c1 rfl ag_c0))
  refine ag_iload_n d_GC_isToken_0 rfl ?_
  refine ag_if_lt d_GC_isToken_1 rfl (fun q => ?_) (fun q => ?_)
  · replace hyp := md_ifp q hyp
    exact ag_dr (ag_d1 rfl ag_d0) (w_GC_isToken_21 hC hH hyp)
  · replace hyp := md_ifn q hyp
    refine ag_iload_n d_GC_isToken_4 rfl ?_
    refine gc_aload_n (r := (some (a))) d_GC_isToken_5 rfl ?_
    obtain ⟨g5, eg5, hyp⟩ := md_bd hyp
    refine gc_getr (r := (some (a))) d_GC_isToken_6 fr_GC_44 eg5 ?_
    obtain ⟨a6, ea6, hyp⟩ := md_bd hyp
    obtain ⟨r6, er6, hyp⟩ := md_bd hyp
    refine gc_callf (r := (g5)) (as := []) d_GC_isToken_9 il_GC_85 ea6 (Nat.le_of_ble_eq_true rfl) (w_AL_size hC (d := d) (by omega) er6) (fun v6 h6 q6 => ?_)
    obtain ⟨rfl, rfl⟩ := q6
    refine ag_icmp_ge d_GC_isToken_14 rfl (fun q => ?_) (fun q => ?_)
    · replace hyp := md_ifp q hyp
      exact ag_dr (ag_d1 rfl ag_d0) (w_GC_isToken_21 hC hH hyp)
    · replace hyp := md_ifn q hyp
      refine ag_iconst d_GC_isToken_17 ?_
      refine ag_goto d_GC_isToken_18 rfl ?_
      exact ag_dr (ag_d1 rfl ag_d0) (w_GC_isToken_22 hC hH hyp)
theorem w_GC_isToken {l : Launch} {G : ag_G} {d N : Nat} {C : Nat × Nat} (hC : ag_cN G = C.1 ∧ ag_cS G = C.2) (hH : 0 + 1 ≤ d) {a : Nat} {p1 : Int32} {h : ag_H} {res : (Int32) × ag_H} (hyp : fn_GC_isToken N C a p1 h = some res) : ag_Met gc_P l G m_GC_isToken d [.ref a, .int (p1)] h (fun v h' => v = some (.int res.1) ∧ h' = res.2) := by
  obtain ⟨d, rfl, hG⟩ := md_dd hH
  exact ag_met (by decide) rfl (Nat.le_of_ble_eq_true rfl) (ag_dr (ag_d1 rfl (ag_d1 rfl ag_d0)) (w_GC_isToken_0 hC hG hyp))
def fn_Pr_checkIndex_9 (N : Nat) (C : Nat × Nat) (x0 : Int32) (x1 : Int32) (x2 : Option Nat) (h : ag_H) : Option ((Int32) × ag_H) := none
def fn_Pr_checkIndex_0 (N : Nat) (C : Nat × Nat) (x0 : Int32) (x1 : Int32) (x2 : Option Nat) (h : ag_H) : Option ((Int32) × ag_H) := if (x0) < (0) then (fn_Pr_checkIndex_9 N C (x0) (x1) (x2) h) else (if (x0) < (x1) then (some ((x0), h)) else (fn_Pr_checkIndex_9 N C (x0) (x1) (x2) h))
def fn_Pr_checkIndex (N : Nat) (C : Nat × Nat) (p0 : Int32) (p1 : Int32) (p2 : Option Nat) (h : ag_H) : Option ((Int32) × ag_H) := fn_Pr_checkIndex_0 N C p0 p1 p2 h
theorem w_Pr_checkIndex_9 {l : Launch} {G : ag_G} {d N : Nat} {C : Nat × Nat} (hC : ag_cN G = C.1 ∧ ag_cS G = C.2) {x0 : Int32} {x1 : Int32} {x2 : Option Nat} {h : ag_H} {res : (Int32) × ag_H} (hyp : fn_Pr_checkIndex_9 N C x0 x1 x2 h = some res) : ag_ev gc_P l G m_Pr_checkIndex (d) (ag_ret gc_P G (fun v h' => v = some (.int res.1) ∧ h' = res.2)) 9 [(0, .int (x0)), (1, .int (x1)), (2, ag_rf (x2))] [] h := by
  unfold fn_Pr_checkIndex_9 at hyp
  have hc : ag_C1 [(0, .int (x0)), (1, .int (x1)), (2, ag_rf (x2))] := (ag_c1 rfl (ag_c1 rfl (ag_c1 (ag_cat_rf _) ag_c0)))
  refine gc_aload_n (r := (x2)) d_Pr_checkIndex_9 rfl ?_
  refine ag_iload_n d_Pr_checkIndex_10 rfl ?_
  refine ag_iload_n d_Pr_checkIndex_11 rfl ?_
  cases hyp
theorem w_Pr_checkIndex_0 {l : Launch} {G : ag_G} {d N : Nat} {C : Nat × Nat} (hC : ag_cN G = C.1 ∧ ag_cS G = C.2) {x0 : Int32} {x1 : Int32} {x2 : Option Nat} {h : ag_H} {res : (Int32) × ag_H} (hyp : fn_Pr_checkIndex_0 N C x0 x1 x2 h = some res) : ag_ev gc_P l G m_Pr_checkIndex (d) (ag_ret gc_P G (fun v h' => v = some (.int res.1) ∧ h' = res.2)) 0 [(0, .int (x0)), (1, .int (x1)), (2, ag_rf (x2))] [] h := by
  unfold fn_Pr_checkIndex_0 at hyp
  have hc : ag_C1 [(0, .int (x0)), (1, .int (x1)), (2, ag_rf (x2))] := (ag_c1 rfl (ag_c1 rfl (ag_c1 (ag_cat_rf _) ag_c0)))
  refine ag_iload_n d_Pr_checkIndex_0 rfl ?_
  refine ag_if_lt d_Pr_checkIndex_1 rfl (fun q => ?_) (fun q => ?_)
  · replace hyp := md_ifp q hyp
    exact ag_dr (ag_d1 rfl (ag_d1 rfl (ag_d1 rfl ag_d0))) (w_Pr_checkIndex_9 hC hyp)
  · replace hyp := md_ifn q hyp
    refine ag_iload_n d_Pr_checkIndex_4 rfl ?_
    refine ag_iload_n d_Pr_checkIndex_5 rfl ?_
    refine ag_icmp_lt d_Pr_checkIndex_6 rfl (fun q => ?_) (fun q => ?_)
    · replace hyp := md_ifp q hyp
      refine ag_iload_n d_Pr_checkIndex_16 rfl ?_
      cases hyp
      exact ag_iret d_Pr_checkIndex_17 rfl rfl ⟨rfl, rfl⟩
    · replace hyp := md_ifn q hyp
      exact ag_dr (ag_d1 rfl (ag_d1 rfl (ag_d1 rfl ag_d0))) (w_Pr_checkIndex_9 hC hyp)
theorem w_Pr_checkIndex {l : Launch} {G : ag_G} {d N : Nat} {C : Nat × Nat} (hC : ag_cN G = C.1 ∧ ag_cS G = C.2) (hH : 0 ≤ d) {p0 : Int32} {p1 : Int32} {p2 : Option Nat} {h : ag_H} {res : (Int32) × ag_H} (hyp : fn_Pr_checkIndex N C p0 p1 p2 h = some res) : ag_Met gc_P l G m_Pr_checkIndex d [.int (p0), .int (p1), ag_rf (p2)] h (fun v h' => v = some (.int res.1) ∧ h' = res.2) := by
  exact ag_met0 (by decide) rfl (ag_v1 rfl (ag_v1 rfl (ag_v1 (ag_cat_rf _) ag_v0))) (Nat.le_of_ble_eq_true rfl) (ag_dr (ag_d1 rfl (ag_d1 rfl (ag_d1 rfl ag_d0))) (w_Pr_checkIndex_0 hC hyp))
def fn_Ob_checkIndex_0 (N : Nat) (C : Nat × Nat) (x0 : Int32) (x1 : Int32) (h : ag_H) : Option ((Int32) × ag_H) := (fn_Pr_checkIndex N C (x0) (x1) (none) h).bind fun r4 => some ((r4.1), r4.2)
def fn_Ob_checkIndex (N : Nat) (C : Nat × Nat) (p0 : Int32) (p1 : Int32) (h : ag_H) : Option ((Int32) × ag_H) := fn_Ob_checkIndex_0 N C p0 p1 h
theorem w_Ob_checkIndex_0 {l : Launch} {G : ag_G} {d N : Nat} {C : Nat × Nat} (hC : ag_cN G = C.1 ∧ ag_cS G = C.2) (hH : 0 ≤ d) {x0 : Int32} {x1 : Int32} {h : ag_H} {res : (Int32) × ag_H} (hyp : fn_Ob_checkIndex_0 N C x0 x1 h = some res) : ag_ev gc_P l G m_Ob_checkIndex (d + 1) (ag_ret gc_P G (fun v h' => v = some (.int res.1) ∧ h' = res.2)) 0 [(0, .int (x0)), (1, .int (x1))] [] h := by
  unfold fn_Ob_checkIndex_0 at hyp
  have hc : ag_C1 [(0, .int (x0)), (1, .int (x1))] := (ag_c1 rfl (ag_c1 rfl ag_c0))
  refine ag_iload_n d_Ob_checkIndex_0 rfl ?_
  refine ag_iload_n d_Ob_checkIndex_1 rfl ?_
  refine ag_null d_Ob_checkIndex_2 ?_
  obtain ⟨r4, er4, hyp⟩ := md_bd hyp
  refine ag_calls (as := [.int (x0), .int (x1), ag_rf (none)]) d_Ob_checkIndex_3 ml_Ob_105 gw_720 (Nat.le_of_ble_eq_true rfl) (w_Pr_checkIndex hC (d := d) (by omega) er4) (fun v4 h4 q4 => ?_)
  obtain ⟨rfl, rfl⟩ := q4
  cases hyp
  exact ag_iret d_Ob_checkIndex_6 rfl rfl ⟨rfl, rfl⟩
theorem w_Ob_checkIndex {l : Launch} {G : ag_G} {d N : Nat} {C : Nat × Nat} (hC : ag_cN G = C.1 ∧ ag_cS G = C.2) (hH : 0 + 1 ≤ d) {p0 : Int32} {p1 : Int32} {h : ag_H} {res : (Int32) × ag_H} (hyp : fn_Ob_checkIndex N C p0 p1 h = some res) : ag_Met gc_P l G m_Ob_checkIndex d [.int (p0), .int (p1)] h (fun v h' => v = some (.int res.1) ∧ h' = res.2) := by
  obtain ⟨d, rfl, hG⟩ := md_dd hH
  exact ag_met (by decide) rfl (Nat.le_of_ble_eq_true rfl) (ag_dr (ag_d1 rfl (ag_d1 rfl ag_d0)) (w_Ob_checkIndex_0 hC hG hyp))
def fn_AL_elementData_0 (N : Nat) (C : Nat × Nat) (a : Nat) (x1 : Int32) (h : ag_H) : Option ((Option Nat) × ag_H) := (ag_gr h (some (a)) 11 0).bind fun g2 => (ag_ao h (g2)).bind fun p4 => if md_in (x1) p4.1 = true then (some ((p4.2 (x1).toNatClampNeg), h)) else none
def fn_AL_elementData (N : Nat) (C : Nat × Nat) (a : Nat) (p1 : Int32) (h : ag_H) : Option ((Option Nat) × ag_H) := fn_AL_elementData_0 N C a p1 h
theorem w_AL_elementData_0 {l : Launch} {G : ag_G} {d N : Nat} {C : Nat × Nat} {a : Nat} (hC : ag_cN G = C.1 ∧ ag_cS G = C.2) {x1 : Int32} {h : ag_H} {res : (Option Nat) × ag_H} (hyp : fn_AL_elementData_0 N C a x1 h = some res) : ag_ev gc_P l G m_AL_elementData (d) (ag_ret gc_P G (fun v h' => v = some (ag_rf res.1) ∧ h' = res.2)) 0 [(0, .ref a), (1, .int (x1))] [] h := by
  unfold fn_AL_elementData_0 at hyp
  have hc : ag_C1 [(0, .ref a), (1, .int (x1))] := (ag_c1 rfl (ag_c1 rfl ag_c0))
  refine gc_aload_n (r := (some (a))) d_AL_elementData_0 rfl ?_
  obtain ⟨g2, eg2, hyp⟩ := md_bd hyp
  refine gc_getr (r := (some (a))) d_AL_elementData_1 fr_AL_9 eg2 ?_
  refine ag_iload_n d_AL_elementData_4 rfl ?_
  obtain ⟨p4, ep4, hyp⟩ := md_bd hyp
  obtain ⟨q4, hyp⟩ := md_ifs hyp
  refine gc_ald (r := (g2)) d_AL_elementData_5 ep4 q4 ?_
  cases hyp
  exact gc_aret (r := (p4.2 (x1).toNatClampNeg)) d_AL_elementData_6 rfl (Or.inl ⟨_, rfl⟩) ⟨rfl, rfl⟩
theorem w_AL_elementData {l : Launch} {G : ag_G} {d N : Nat} {C : Nat × Nat} (hC : ag_cN G = C.1 ∧ ag_cS G = C.2) (hH : 0 ≤ d) {a : Nat} {p1 : Int32} {h : ag_H} {res : (Option Nat) × ag_H} (hyp : fn_AL_elementData N C a p1 h = some res) : ag_Met gc_P l G m_AL_elementData d [.ref a, .int (p1)] h (fun v h' => v = some (ag_rf res.1) ∧ h' = res.2) := by
  exact ag_met (by decide) rfl (Nat.le_of_ble_eq_true rfl) (ag_dr (ag_d1 rfl (ag_d1 rfl ag_d0)) (w_AL_elementData_0 hC hyp))
def fn_AL_get_0 (N : Nat) (C : Nat × Nat) (a : Nat) (x1 : Int32) (h : ag_H) : Option ((Option Nat) × ag_H) := (ag_gi h (some (a)) 11 1).bind fun g3 => (fn_Ob_checkIndex N C (x1) (g3) h).bind fun r4 => (ag_rc r4.2 (some (a)) 11).bind fun a8 => (fn_AL_elementData N C a8 (x1) r4.2).bind fun r8 => some ((r8.1), r8.2)
def fn_AL_get (N : Nat) (C : Nat × Nat) (a : Nat) (p1 : Int32) (h : ag_H) : Option ((Option Nat) × ag_H) := fn_AL_get_0 N C a p1 h
theorem w_AL_get_0 {l : Launch} {G : ag_G} {d N : Nat} {C : Nat × Nat} {a : Nat} (hC : ag_cN G = C.1 ∧ ag_cS G = C.2) (hH : 1 ≤ d) {x1 : Int32} {h : ag_H} {res : (Option Nat) × ag_H} (hyp : fn_AL_get_0 N C a x1 h = some res) : ag_ev gc_P l G m_AL_get (d + 1) (ag_ret gc_P G (fun v h' => v = some (ag_rf res.1) ∧ h' = res.2)) 0 [(0, .ref a), (1, .int (x1))] [] h := by
  unfold fn_AL_get_0 at hyp
  have hc : ag_C1 [(0, .ref a), (1, .int (x1))] := (ag_c1 rfl (ag_c1 rfl ag_c0))
  refine ag_iload_n d_AL_get_0 rfl ?_
  refine gc_aload_n (r := (some (a))) d_AL_get_1 rfl ?_
  obtain ⟨g3, eg3, hyp⟩ := md_bd hyp
  refine gc_geti (r := (some (a))) d_AL_get_2 fr_AL_48 eg3 ?_
  obtain ⟨r4, er4, hyp⟩ := md_bd hyp
  refine ag_calls (as := [.int (x1), .int (g3)]) d_AL_get_5 ml_AL_118 gw_717 (Nat.le_of_ble_eq_true rfl) (w_Ob_checkIndex hC (d := d) (by omega) er4) (fun v4 h4 q4 => ?_)
  obtain ⟨rfl, rfl⟩ := q4
  refine ag_pop d_AL_get_8 rfl ?_
  refine gc_aload_n (r := (some (a))) d_AL_get_9 rfl ?_
  refine ag_iload_n d_AL_get_10 rfl ?_
  obtain ⟨a8, ea8, hyp⟩ := md_bd hyp
  obtain ⟨r8, er8, hyp⟩ := md_bd hyp
  refine gc_callv (r := (some (a))) (as := [.int (x1)]) d_AL_get_11 ml_AL_123 gw_723 rfl sl_AL_elementData ea8 (Nat.le_of_ble_eq_true rfl) (w_AL_elementData hC (d := d) (by omega) er8) (fun v8 h8 q8 => ?_)
  obtain ⟨rfl, rfl⟩ := q8
  cases hyp
  exact gc_aret (r := (r8.1)) d_AL_get_14 rfl (Or.inl ⟨_, rfl⟩) ⟨rfl, rfl⟩
theorem w_AL_get {l : Launch} {G : ag_G} {d N : Nat} {C : Nat × Nat} (hC : ag_cN G = C.1 ∧ ag_cS G = C.2) (hH : 1 + 1 ≤ d) {a : Nat} {p1 : Int32} {h : ag_H} {res : (Option Nat) × ag_H} (hyp : fn_AL_get N C a p1 h = some res) : ag_Met gc_P l G m_AL_get d [.ref a, .int (p1)] h (fun v h' => v = some (ag_rf res.1) ∧ h' = res.2) := by
  obtain ⟨d, rfl, hG⟩ := md_dd hH
  exact ag_met (by decide) rfl (Nat.le_of_ble_eq_true rfl) (ag_dr (ag_d1 rfl (ag_d1 rfl ag_d0)) (w_AL_get_0 hC hG hyp))
def fn_Tk_copy_10 (N : Nat) (C : Nat × Nat) (a : Nat) : Nat → Option Nat → Int32 → ag_H → Option ((Option Nat) × ag_H)
  | 0, _, _, _ => none
  | n + 1, x1, x2, h => (ag_gr h (some (a)) 8 0).bind fun g3 => (ag_rc h (g3) 11).bind fun a4 => (fn_AL_size N C a4  h).bind fun r4 => if (r4.1) ≤ (x2) then ((ag_gi r4.2 (some (a)) 8 1).bind fun g8 => (ag_pf r4.2 (ag_rf (x1)) 8 1 .boolean (.int (g8))).bind fun h9 => (ag_gi h9 (some (a)) 8 2).bind fun g12 => (ag_pf h9 (ag_rf (x1)) 8 2 .int (.int (g12))).bind fun h13 => (ag_gi h13 (some (a)) 8 3).bind fun g16 => (ag_pf h13 (ag_rf (x1)) 8 3 .int (.int (g16))).bind fun h17 => some ((x1), h17)) else ((ag_gr r4.2 (x1) 8 0).bind fun g21 => (ag_gr r4.2 (some (a)) 8 0).bind fun g23 => (ag_rc r4.2 (g23) 11).bind fun a25 => (fn_AL_get N C a25 (x2) r4.2).bind fun r25 => if ag_ck r25.2 (r25.1) 9 = true then ((ag_rc r25.2 (g21) 11).bind fun a27 => (fn_AL_add N C a27 (r25.1) r25.2).bind fun r27 => fn_Tk_copy_10 N C a n (x1) ((x2) + Int32.ofInt (1)) r27.2) else none)
theorem fe_Tk_copy_10 (N : Nat) (C : Nat × Nat) (a : Nat) (n : Nat) (x1 : Option Nat) (x2 : Int32) (h : ag_H) : fn_Tk_copy_10 N C a (n + 1) x1 x2 h = ((ag_gr h (some (a)) 8 0).bind fun g3 => (ag_rc h (g3) 11).bind fun a4 => (fn_AL_size N C a4  h).bind fun r4 => if (r4.1) ≤ (x2) then ((ag_gi r4.2 (some (a)) 8 1).bind fun g8 => (ag_pf r4.2 (ag_rf (x1)) 8 1 .boolean (.int (g8))).bind fun h9 => (ag_gi h9 (some (a)) 8 2).bind fun g12 => (ag_pf h9 (ag_rf (x1)) 8 2 .int (.int (g12))).bind fun h13 => (ag_gi h13 (some (a)) 8 3).bind fun g16 => (ag_pf h13 (ag_rf (x1)) 8 3 .int (.int (g16))).bind fun h17 => some ((x1), h17)) else ((ag_gr r4.2 (x1) 8 0).bind fun g21 => (ag_gr r4.2 (some (a)) 8 0).bind fun g23 => (ag_rc r4.2 (g23) 11).bind fun a25 => (fn_AL_get N C a25 (x2) r4.2).bind fun r25 => if ag_ck r25.2 (r25.1) 9 = true then ((ag_rc r25.2 (g21) 11).bind fun a27 => (fn_AL_add N C a27 (r25.1) r25.2).bind fun r27 => fn_Tk_copy_10 N C a n (x1) ((x2) + Int32.ofInt (1)) r27.2) else none)) := rfl
def fn_Tk_copy_0 (N : Nat) (C : Nat × Nat) (a : Nat) (h : ag_H) : Option ((Option Nat) × ag_H) := if h.1 + 1 ≤ C.1 ∧ h.2.1 + 4 ≤ C.2 then ((fn_Tk_init N C (h.1)  (ag_nw h 4 (.inr (8, [.null, .int 0, .int 0, .int 0])))).bind fun r3 => fn_Tk_copy_10 N C a N ((some (h.1))) (Int32.ofInt 0) r3.2) else none
def fn_Tk_copy (N : Nat) (C : Nat × Nat) (a : Nat) (h : ag_H) : Option ((Option Nat) × ag_H) := fn_Tk_copy_0 N C a h
theorem w_Tk_copy_10 {l : Launch} {G : ag_G} {d N : Nat} {C : Nat × Nat} {a : Nat} (hC : ag_cN G = C.1 ∧ ag_cS G = C.2) (hH : 5 ≤ d) : ∀ (n : Nat) (res : (Option Nat) × ag_H) (x1 : Option Nat) (x2 : Int32) (h : ag_H) , fn_Tk_copy_10 N C a n x1 x2 h = some res → ag_ev gc_P l G m_Tk_copy (d + 1) (ag_ret gc_P G (fun v h' => v = some (ag_rf res.1) ∧ h' = res.2)) 10 [(0, .ref a), (1, ag_rf (x1)), (2, .int (x2))] [] h := by
  intro n
  induction n with
  | zero =>
    intro res x1 x2 h hyp
    cases hyp
  | succ n ih =>
    intro res x1 x2 h hyp
    rw [fe_Tk_copy_10] at hyp
    have hc : ag_C1 [(0, .ref a), (1, ag_rf (x1)), (2, .int (x2))] := (ag_c1 rfl (ag_c1 (ag_cat_rf _) (ag_c1 rfl ag_c0)))
    refine ag_iload_n d_Tk_copy_10 rfl ?_
    refine gc_aload_n (r := (some (a))) d_Tk_copy_11 rfl ?_
    obtain ⟨g3, eg3, hyp⟩ := md_bd hyp
    refine gc_getr (r := (some (a))) d_Tk_copy_12 fr_Tk_10 eg3 ?_
    obtain ⟨a4, ea4, hyp⟩ := md_bd hyp
    obtain ⟨r4, er4, hyp⟩ := md_bd hyp
    refine gc_callf (r := (g3)) (as := []) d_Tk_copy_15 il_Tk_17 ea4 (Nat.le_of_ble_eq_true rfl) (w_AL_size hC (d := d) (by omega) er4) (fun v4 h4 q4 => ?_)
    obtain ⟨rfl, rfl⟩ := q4
    refine ag_icmp_ge d_Tk_copy_20 rfl (fun q => ?_) (fun q => ?_)
    · replace hyp := md_ifp q hyp
      refine gc_aload_n (r := (x1)) d_Tk_copy_52 rfl ?_
      refine gc_aload_n (r := (some (a))) d_Tk_copy_53 rfl ?_
      obtain ⟨g8, eg8, hyp⟩ := md_bd hyp
      refine gc_geti (r := (some (a))) d_Tk_copy_54 fr_Tk_33 eg8 ?_
      obtain ⟨h9, eh9, hyp⟩ := md_bd hyp
      refine gc_putf (r := (x1)) d_Tk_copy_57 fl_Tk_33 (fun q => by cases q) eh9 ?_
      refine gc_aload_n (r := (x1)) d_Tk_copy_60 rfl ?_
      refine gc_aload_n (r := (some (a))) d_Tk_copy_61 rfl ?_
      obtain ⟨g12, eg12, hyp⟩ := md_bd hyp
      refine gc_geti (r := (some (a))) d_Tk_copy_62 fr_Tk_37 eg12 ?_
      obtain ⟨h13, eh13, hyp⟩ := md_bd hyp
      refine gc_putf (r := (x1)) d_Tk_copy_65 fl_Tk_37 (fun q => by cases q) eh13 ?_
      refine gc_aload_n (r := (x1)) d_Tk_copy_68 rfl ?_
      refine gc_aload_n (r := (some (a))) d_Tk_copy_69 rfl ?_
      obtain ⟨g16, eg16, hyp⟩ := md_bd hyp
      refine gc_geti (r := (some (a))) d_Tk_copy_70 fr_Tk_41 eg16 ?_
      obtain ⟨h17, eh17, hyp⟩ := md_bd hyp
      refine gc_putf (r := (x1)) d_Tk_copy_73 fl_Tk_41 (fun q => by cases q) eh17 ?_
      refine gc_aload_n (r := (x1)) d_Tk_copy_76 rfl ?_
      cases hyp
      exact gc_aret (r := (x1)) d_Tk_copy_77 rfl (Or.inl ⟨_, rfl⟩) ⟨rfl, rfl⟩
    · replace hyp := md_ifn q hyp
      refine gc_aload_n (r := (x1)) d_Tk_copy_23 rfl ?_
      obtain ⟨g21, eg21, hyp⟩ := md_bd hyp
      refine gc_getr (r := (x1)) d_Tk_copy_24 fr_Tk_10 eg21 ?_
      refine gc_aload_n (r := (some (a))) d_Tk_copy_27 rfl ?_
      obtain ⟨g23, eg23, hyp⟩ := md_bd hyp
      refine gc_getr (r := (some (a))) d_Tk_copy_28 fr_Tk_10 eg23 ?_
      refine ag_iload_n d_Tk_copy_31 rfl ?_
      obtain ⟨a25, ea25, hyp⟩ := md_bd hyp
      obtain ⟨r25, er25, hyp⟩ := md_bd hyp
      refine gc_callf (r := (g23)) (as := [.int (x2)]) d_Tk_copy_32 il_Tk_23 ea25 (ag_w9 (ag_v1 (ag_cat_rf _) ag_v0) (Nat.le_of_ble_eq_true rfl)) (w_AL_get hC (d := d) (by omega) er25) (fun v25 h25 q25 => ?_)
      obtain ⟨rfl, rfl⟩ := q25
      obtain ⟨q26, hyp⟩ := md_ifs hyp
      refine gc_cast (r := (r25.1)) d_Tk_copy_37 gw_736 rfl q26 ?_
      obtain ⟨a27, ea27, hyp⟩ := md_bd hyp
      obtain ⟨r27, er27, hyp⟩ := md_bd hyp
      refine gc_callf (r := (g21)) (as := [ag_rf (r25.1)]) d_Tk_copy_40 il_Tk_29 ea27 (Nat.le_of_ble_eq_true rfl) (w_AL_add hC (d := d) (by omega) er27) (fun v27 h27 q27 => ?_)
      obtain ⟨rfl, rfl⟩ := q27
      refine ag_pop d_Tk_copy_45 rfl ?_
      refine gc_iinc d_Tk_copy_46 rfl (by decide) hc ?_
      replace hc := ag_cs (i := 2) (v := .int ((x2) + Int32.ofInt (1))) hc rfl
      refine ag_goto d_Tk_copy_49 rfl ?_
      exact ag_dr (ag_d1 rfl (ag_d1 rfl (ag_d1 rfl ag_d0))) (ih _ _ _ _ hyp)
theorem w_Tk_copy_0 {l : Launch} {G : ag_G} {d N : Nat} {C : Nat × Nat} {a : Nat} (hC : ag_cN G = C.1 ∧ ag_cS G = C.2) (hH : 5 ≤ d) {h : ag_H} {res : (Option Nat) × ag_H} (hyp : fn_Tk_copy_0 N C a h = some res) : ag_ev gc_P l G m_Tk_copy (d + 1) (ag_ret gc_P G (fun v h' => v = some (ag_rf res.1) ∧ h' = res.2)) 0 [(0, .ref a)] [] h := by
  unfold fn_Tk_copy_0 at hyp
  have hc : ag_C1 [(0, .ref a)] := (ag_c1 rfl ag_c0)
  obtain ⟨q1, hyp⟩ := md_ifs hyp
  refine gc_new (ci := 8) hC d_Tk_copy_0 gw_730 gw_611 gw_23 rfl nf_Tk q1 ?_
  refine ag_dup d_Tk_copy_3 rfl ?_
  obtain ⟨r3, er3, hyp⟩ := md_bd hyp
  refine ag_calli (a := h.1) (as := []) d_Tk_copy_4 ml_Tk_16 gw_613 rfl rfl (Nat.le_of_ble_eq_true rfl) (w_Tk_init hC (d := d) (by omega) er3) (fun v3 h3 q3 => ?_)
  obtain ⟨rfl, rfl⟩ := q3
  refine gc_astore0_n (r := (some (h.1))) d_Tk_copy_7 (by decide) hc ?_
  replace hc := ag_cs (i := 1) (v := ag_rf (some (h.1))) hc (ag_cat_rf _)
  refine ag_iconst d_Tk_copy_8 ?_
  refine gc_istore_n d_Tk_copy_9 (by decide) hc ?_
  replace hc := ag_cs (i := 2) (v := .int (Int32.ofInt 0)) hc rfl
  exact ag_dr (ag_d1 rfl (ag_d1 rfl (ag_d1 rfl ag_d0))) (w_Tk_copy_10 hC hH N _ _ _ _ hyp)
theorem w_Tk_copy {l : Launch} {G : ag_G} {d N : Nat} {C : Nat × Nat} (hC : ag_cN G = C.1 ∧ ag_cS G = C.2) (hH : 5 + 1 ≤ d) {a : Nat} {h : ag_H} {res : (Option Nat) × ag_H} (hyp : fn_Tk_copy N C a h = some res) : ag_Met gc_P l G m_Tk_copy d [.ref a] h (fun v h' => v = some (ag_rf res.1) ∧ h' = res.2) := by
  obtain ⟨d, rfl, hG⟩ := md_dd hH
  exact ag_met (by decide) rfl (Nat.le_of_ble_eq_true rfl) (ag_dr (ag_d1 rfl ag_d0) (w_Tk_copy_0 hC hG hyp))
def fn_GC_append_64 (N : Nat) (C : Nat × Nat) (a : Nat) (h : ag_H) : Option ((Int32 ⊕ Nat) × ag_H) := if h.1 + 1 ≤ C.1 ∧ h.2.1 + 6 ≤ C.2 then (some (.inr h.1, ag_nw h 6 (.inr (13, [])))) else none
def fn_GC_append_0 (N : Nat) (C : Nat × Nat) (a : Nat) (x1 : Int32) (h : ag_H) : Option ((Int32 ⊕ Nat) × ag_H) := (ag_rc h (some (a)) 0).bind fun a3 => (fn_GC_isToken N C a3 (x1) h).bind fun r3 => if (r3.1) = (0) then (if r3.2.1 + 1 ≤ C.1 ∧ r3.2.2.1 + 6 ≤ C.2 then (some (.inr r3.2.1, ag_nw r3.2 6 (.inr (14, [])))) else none) else ((ag_gr r3.2 (some (a)) 0 5).bind fun g6 => (ag_rc r3.2 (g6) 11).bind fun a8 => (fn_AL_get N C a8 (x1) r3.2).bind fun r8 => if ag_ck r8.2 (r8.1) 8 = true then ((ag_gi r8.2 ((r8.1)) 8 1).bind fun g12 => if (g12) = (0) then ((ag_gr r8.2 ((r8.1)) 8 0).bind fun g15 => (ag_rc r8.2 (g15) 11).bind fun a16 => (fn_AL_size N C a16  r8.2).bind fun r16 => if (Int32.ofInt 4) ≤ (r16.1) then (fn_GC_append_64 N C a  r16.2) else ((ag_gr r16.2 (some (a)) 0 5).bind fun g20 => (ag_rc r16.2 (g20) 11).bind fun a21 => (fn_AL_size N C a21  r16.2).bind fun r21 => if (r21.1) < ((Int8.ofInt (16)).toInt32) then ((ag_rc r21.2 ((r8.1)) 8).bind fun a26 => (fn_Tk_copy N C a26  r21.2).bind fun r26 => (ag_gi r26.2 ((r8.1)) 8 2).bind fun g28 => (ag_rc r26.2 (some (a)) 0).bind fun a29 => (fn_GC_keepWithNewLink N C a29 (r26.1) (g28) r26.2).bind fun r29 => some (.inl (r29.1), r29.2)) else (fn_GC_append_64 N C a  r21.2))) else (fn_GC_append_64 N C a  r8.2)) else none)
def fn_GC_append (N : Nat) (C : Nat × Nat) (a : Nat) (p1 : Int32) (h : ag_H) : Option ((Int32 ⊕ Nat) × ag_H) := fn_GC_append_0 N C a p1 h
theorem w_GC_append_64 {l : Launch} {G : ag_G} {d N : Nat} {C : Nat × Nat} {a : Nat} (hC : ag_cN G = C.1 ∧ ag_cS G = C.2) (htr : ∀ e : Env, l.admits e → e.platform.stackTraces = false) (hH : 7 ≤ d) {h : ag_H} {res : (Int32 ⊕ Nat) × ag_H} (hyp : fn_GC_append_64 N C a h = some res) : ag_ev gc_P l G m_GC_append (d + 1) (ag_out gc_P G res.1 res.2) 64 [(0, .ref a)] [] h := by
  unfold fn_GC_append_64 at hyp
  have hc : ag_C1 [(0, .ref a)] := (ag_c1 rfl ag_c0)
  obtain ⟨q1, hyp⟩ := md_ifs hyp
  cases hyp
  exact ag_throw (ci := 13) (names := gc_sup) d_GC_append_64 d_GC_append_67 d_GC_append_68 d_GC_append_71 rfl gw_572 gw_573 gw_22 rfl (by decide +kernel) (by decide +kernel) xw_GC_93 (by decide) htr (Nat.le_of_ble_eq_true rfl) (by rw [hC.1]; exact q1.1) (by rw [hC.2]; exact q1.2) ⟨rfl, rfl⟩
theorem w_GC_append_0 {l : Launch} {G : ag_G} {d N : Nat} {C : Nat × Nat} {a : Nat} (hC : ag_cN G = C.1 ∧ ag_cS G = C.2) (htr : ∀ e : Env, l.admits e → e.platform.stackTraces = false) (hH : 7 ≤ d) {x1 : Int32} {h : ag_H} {res : (Int32 ⊕ Nat) × ag_H} (hyp : fn_GC_append_0 N C a x1 h = some res) : ag_ev gc_P l G m_GC_append (d + 1) (ag_out gc_P G res.1 res.2) 0 [(0, .ref a), (1, .int (x1))] [] h := by
  unfold fn_GC_append_0 at hyp
  have hc : ag_C1 [(0, .ref a), (1, .int (x1))] := (ag_c1 rfl (ag_c1 rfl ag_c0))
  refine gc_aload_n (r := (some (a))) d_GC_append_0 rfl ?_
  refine ag_iload_n d_GC_append_1 rfl ?_
  obtain ⟨a3, ea3, hyp⟩ := md_bd hyp
  obtain ⟨r3, er3, hyp⟩ := md_bd hyp
  refine gc_callv (r := (some (a))) (as := [.int (x1)]) d_GC_append_2 ml_GC_112 gw_690 rfl sl_GC_isToken ea3 (Nat.le_of_ble_eq_true rfl) (w_GC_isToken hC (d := d) (by omega) er3) (fun v3 h3 q3 => ?_)
  obtain ⟨rfl, rfl⟩ := q3
  refine ag_if_ne d_GC_append_5 rfl (fun q => ?_) (fun q => ?_)
  · replace hyp := md_ifn q hyp
    refine gc_aload_n (r := (some (a))) d_GC_append_16 rfl ?_
    obtain ⟨g6, eg6, hyp⟩ := md_bd hyp
    refine gc_getr (r := (some (a))) d_GC_append_17 fr_GC_44 eg6 ?_
    refine ag_iload_n d_GC_append_20 rfl ?_
    obtain ⟨a8, ea8, hyp⟩ := md_bd hyp
    obtain ⟨r8, er8, hyp⟩ := md_bd hyp
    refine gc_callf (r := (g6)) (as := [.int (x1)]) d_GC_append_21 il_GC_118 ea8 (Nat.le_of_ble_eq_true rfl) (w_AL_get hC (d := d) (by omega) er8) (fun v8 h8 q8 => ?_)
    obtain ⟨rfl, rfl⟩ := q8
    obtain ⟨q9, hyp⟩ := md_ifs hyp
    refine gc_cast (r := (r8.1)) d_GC_append_26 gw_610 rfl q9 ?_
    refine gc_astore0_n (r := (r8.1)) d_GC_append_29 (by decide) hc ?_
    replace hc := ag_cs (i := 2) (v := ag_rf (r8.1)) hc (ag_cat_rf _)
    refine gc_aload_n (r := ((r8.1))) d_GC_append_30 rfl ?_
    obtain ⟨g12, eg12, hyp⟩ := md_bd hyp
    refine gc_geti (r := ((r8.1))) d_GC_append_31 fr_GC_122 eg12 ?_
    refine ag_if_ne d_GC_append_34 rfl (fun q => ?_) (fun q => ?_)
    · replace hyp := md_ifn q hyp
      exact ag_dr (ag_d1 rfl ag_d0) (w_GC_append_64 hC htr hH hyp)
    · replace hyp := md_ifp q hyp
      refine gc_aload_n (r := ((r8.1))) d_GC_append_37 rfl ?_
      obtain ⟨g15, eg15, hyp⟩ := md_bd hyp
      refine gc_getr (r := ((r8.1))) d_GC_append_38 fr_GC_126 eg15 ?_
      obtain ⟨a16, ea16, hyp⟩ := md_bd hyp
      obtain ⟨r16, er16, hyp⟩ := md_bd hyp
      refine gc_callf (r := (g15)) (as := []) d_GC_append_41 il_GC_85 ea16 (Nat.le_of_ble_eq_true rfl) (w_AL_size hC (d := d) (by omega) er16) (fun v16 h16 q16 => ?_)
      obtain ⟨rfl, rfl⟩ := q16
      refine ag_iconst d_GC_append_46 ?_
      refine ag_icmp_ge d_GC_append_47 rfl (fun q => ?_) (fun q => ?_)
      · replace hyp := md_ifp q hyp
        exact ag_dr (ag_d1 rfl ag_d0) (w_GC_append_64 hC htr hH hyp)
      · replace hyp := md_ifn q hyp
        refine gc_aload_n (r := (some (a))) d_GC_append_50 rfl ?_
        obtain ⟨g20, eg20, hyp⟩ := md_bd hyp
        refine gc_getr (r := (some (a))) d_GC_append_51 fr_GC_44 eg20 ?_
        obtain ⟨a21, ea21, hyp⟩ := md_bd hyp
        obtain ⟨r21, er21, hyp⟩ := md_bd hyp
        refine gc_callf (r := (g20)) (as := []) d_GC_append_54 il_GC_85 ea21 (Nat.le_of_ble_eq_true rfl) (w_AL_size hC (d := d) (by omega) er21) (fun v21 h21 q21 => ?_)
        obtain ⟨rfl, rfl⟩ := q21
        refine ag_bipush d_GC_append_59 ?_
        refine ag_icmp_lt d_GC_append_61 rfl (fun q => ?_) (fun q => ?_)
        · replace hyp := md_ifp q hyp
          refine gc_aload_n (r := (some (a))) d_GC_append_72 rfl ?_
          refine gc_aload_n (r := ((r8.1))) d_GC_append_73 rfl ?_
          obtain ⟨a26, ea26, hyp⟩ := md_bd hyp
          obtain ⟨r26, er26, hyp⟩ := md_bd hyp
          refine gc_callv (r := ((r8.1))) (as := []) d_GC_append_74 ml_GC_129 gw_727 rfl sl_Tk_copy ea26 (Nat.le_of_ble_eq_true rfl) (w_Tk_copy hC (d := d) (by omega) er26) (fun v26 h26 q26 => ?_)
          obtain ⟨rfl, rfl⟩ := q26
          refine gc_aload_n (r := ((r8.1))) d_GC_append_77 rfl ?_
          obtain ⟨g28, eg28, hyp⟩ := md_bd hyp
          refine gc_geti (r := ((r8.1))) d_GC_append_78 fr_GC_133 eg28 ?_
          obtain ⟨a29, ea29, hyp⟩ := md_bd hyp
          obtain ⟨r29, er29, hyp⟩ := md_bd hyp
          refine gc_callv (r := (some (a))) (as := [ag_rf (r26.1), .int (g28)]) d_GC_append_81 ml_GC_108 gw_637 rfl sl_GC_keepWithNewLink ea29 (Nat.le_of_ble_eq_true rfl) (w_GC_keepWithNewLink hC (d := d) (by omega) er29) (fun v29 h29 q29 => ?_)
          obtain ⟨rfl, rfl⟩ := q29
          cases hyp
          exact ag_iret d_GC_append_84 rfl rfl ⟨rfl, rfl⟩
        · replace hyp := md_ifn q hyp
          exact ag_dr (ag_d1 rfl ag_d0) (w_GC_append_64 hC htr hH hyp)
  · replace hyp := md_ifp q hyp
    obtain ⟨q31, hyp⟩ := md_ifs hyp
    cases hyp
    exact ag_throw (ci := 14) (names := gc_sup) d_GC_append_8 d_GC_append_11 d_GC_append_12 d_GC_append_15 rfl gw_692 gw_693 gw_25 rfl (by decide +kernel) (by decide +kernel) xw_GC_117 (by decide) htr (Nat.le_of_ble_eq_true rfl) (by rw [hC.1]; exact q31.1) (by rw [hC.2]; exact q31.2) ⟨rfl, rfl⟩
theorem w_GC_append {l : Launch} {G : ag_G} {d N : Nat} {C : Nat × Nat} (hC : ag_cN G = C.1 ∧ ag_cS G = C.2) (htr : ∀ e : Env, l.admits e → e.platform.stackTraces = false) (hH : 7 + 1 ≤ d) {a : Nat} {p1 : Int32} {h : ag_H} {x : Int32} {h' : ag_H} (hyp : fn_GC_append N C a p1 h = some (.inl x, h')) : ag_Met gc_P l G m_GC_append d [.ref a, .int (p1)] h (fun v h'' => v = some (.int x) ∧ h'' = h') := by
  obtain ⟨d, rfl, hG⟩ := md_dd hH
  exact ag_met (by decide) rfl (Nat.le_of_ble_eq_true rfl) (ag_dr (ag_d1 rfl (ag_d1 rfl ag_d0)) (w_GC_append_0 hC htr hG hyp))
theorem t_GC_append {l : Launch} {G : ag_G} {d N : Nat} {C : Nat × Nat} (hC : ag_cN G = C.1 ∧ ag_cS G = C.2) (htr : ∀ e : Env, l.admits e → e.platform.stackTraces = false) (hH : 7 + 1 ≤ d) {a : Nat} {p1 : Int32} {h : ag_H} {x : Nat} {h' : ag_H} (hyp : fn_GC_append N C a p1 h = some (.inr x, h')) : ag_MetT gc_P l G m_GC_append d [.ref a, .int (p1)] h (fun x' h'' => x' = x ∧ h'' = h') := by
  obtain ⟨d, rfl, hG⟩ := md_dd hH
  exact ag_metT (by decide) rfl (Nat.le_of_ble_eq_true rfl) (ag_dr (ag_d1 rfl (ag_d1 rfl ag_d0)) (w_GC_append_0 hC htr hG hyp))
def fn_GC_seal_51 (N : Nat) (C : Nat × Nat) (a : Nat) (h : ag_H) : Option ((Int32 ⊕ Nat) × ag_H) := if h.1 + 1 ≤ C.1 ∧ h.2.1 + 6 ≤ C.2 then (some (.inr h.1, ag_nw h 6 (.inr (13, [])))) else none
def fn_GC_seal_0 (N : Nat) (C : Nat × Nat) (a : Nat) (x1 : Int32) (h : ag_H) : Option ((Int32 ⊕ Nat) × ag_H) := (ag_rc h (some (a)) 0).bind fun a3 => (fn_GC_isToken N C a3 (x1) h).bind fun r3 => if (r3.1) = (0) then (if r3.2.1 + 1 ≤ C.1 ∧ r3.2.2.1 + 6 ≤ C.2 then (some (.inr r3.2.1, ag_nw r3.2 6 (.inr (14, [])))) else none) else ((ag_gr r3.2 (some (a)) 0 5).bind fun g6 => (ag_rc r3.2 (g6) 11).bind fun a8 => (fn_AL_get N C a8 (x1) r3.2).bind fun r8 => if ag_ck r8.2 (r8.1) 8 = true then ((ag_gi r8.2 ((r8.1)) 8 1).bind fun g12 => if (g12) = (0) then ((ag_gr r8.2 (some (a)) 0 5).bind fun g15 => (ag_rc r8.2 (g15) 11).bind fun a16 => (fn_AL_size N C a16  r8.2).bind fun r16 => if (r16.1) < ((Int8.ofInt (16)).toInt32) then ((ag_rc r16.2 ((r8.1)) 8).bind fun a20 => (fn_Tk_copy N C a20  r16.2).bind fun r20 => (ag_pf r20.2 (ag_rf ((r20.1))) 8 1 .boolean (.int (Int32.ofInt 1))).bind fun h24 => (ag_gr h24 ((r20.1)) 8 0).bind fun g27 => (ag_rc h24 (g27) 11).bind fun a28 => (fn_AL_size N C a28  h24).bind fun r28 => (ag_pf r28.2 (ag_rf ((r20.1))) 8 3 .int (.int (r28.1))).bind fun h29 => (ag_rc h29 (some (a)) 0).bind fun a32 => (fn_GC_keep N C a32 ((r20.1)) h29).bind fun r32 => some (.inl (r32.1), r32.2)) else (fn_GC_seal_51 N C a  r16.2)) else (fn_GC_seal_51 N C a  r8.2)) else none)
def fn_GC_seal (N : Nat) (C : Nat × Nat) (a : Nat) (p1 : Int32) (h : ag_H) : Option ((Int32 ⊕ Nat) × ag_H) := fn_GC_seal_0 N C a p1 h
theorem w_GC_seal_51 {l : Launch} {G : ag_G} {d N : Nat} {C : Nat × Nat} {a : Nat} (hC : ag_cN G = C.1 ∧ ag_cS G = C.2) (htr : ∀ e : Env, l.admits e → e.platform.stackTraces = false) (hH : 6 ≤ d) {h : ag_H} {res : (Int32 ⊕ Nat) × ag_H} (hyp : fn_GC_seal_51 N C a h = some res) : ag_ev gc_P l G m_GC_seal (d + 1) (ag_out gc_P G res.1 res.2) 51 [(0, .ref a)] [] h := by
  unfold fn_GC_seal_51 at hyp
  have hc : ag_C1 [(0, .ref a)] := (ag_c1 rfl ag_c0)
  obtain ⟨q1, hyp⟩ := md_ifs hyp
  cases hyp
  exact ag_throw (ci := 13) (names := gc_sup) d_GC_seal_51 d_GC_seal_54 d_GC_seal_55 d_GC_seal_58 rfl gw_572 gw_573 gw_22 rfl (by decide +kernel) (by decide +kernel) xw_GC_93 (by decide) htr (Nat.le_of_ble_eq_true rfl) (by rw [hC.1]; exact q1.1) (by rw [hC.2]; exact q1.2) ⟨rfl, rfl⟩
theorem w_GC_seal_0 {l : Launch} {G : ag_G} {d N : Nat} {C : Nat × Nat} {a : Nat} (hC : ag_cN G = C.1 ∧ ag_cS G = C.2) (htr : ∀ e : Env, l.admits e → e.platform.stackTraces = false) (hH : 6 ≤ d) {x1 : Int32} {h : ag_H} {res : (Int32 ⊕ Nat) × ag_H} (hyp : fn_GC_seal_0 N C a x1 h = some res) : ag_ev gc_P l G m_GC_seal (d + 1) (ag_out gc_P G res.1 res.2) 0 [(0, .ref a), (1, .int (x1))] [] h := by
  unfold fn_GC_seal_0 at hyp
  have hc : ag_C1 [(0, .ref a), (1, .int (x1))] := (ag_c1 rfl (ag_c1 rfl ag_c0))
  refine gc_aload_n (r := (some (a))) d_GC_seal_0 rfl ?_
  refine ag_iload_n d_GC_seal_1 rfl ?_
  obtain ⟨a3, ea3, hyp⟩ := md_bd hyp
  obtain ⟨r3, er3, hyp⟩ := md_bd hyp
  refine gc_callv (r := (some (a))) (as := [.int (x1)]) d_GC_seal_2 ml_GC_112 gw_690 rfl sl_GC_isToken ea3 (Nat.le_of_ble_eq_true rfl) (w_GC_isToken hC (d := d) (by omega) er3) (fun v3 h3 q3 => ?_)
  obtain ⟨rfl, rfl⟩ := q3
  refine ag_if_ne d_GC_seal_5 rfl (fun q => ?_) (fun q => ?_)
  · replace hyp := md_ifn q hyp
    refine gc_aload_n (r := (some (a))) d_GC_seal_16 rfl ?_
    obtain ⟨g6, eg6, hyp⟩ := md_bd hyp
    refine gc_getr (r := (some (a))) d_GC_seal_17 fr_GC_44 eg6 ?_
    refine ag_iload_n d_GC_seal_20 rfl ?_
    obtain ⟨a8, ea8, hyp⟩ := md_bd hyp
    obtain ⟨r8, er8, hyp⟩ := md_bd hyp
    refine gc_callf (r := (g6)) (as := [.int (x1)]) d_GC_seal_21 il_GC_118 ea8 (Nat.le_of_ble_eq_true rfl) (w_AL_get hC (d := d) (by omega) er8) (fun v8 h8 q8 => ?_)
    obtain ⟨rfl, rfl⟩ := q8
    obtain ⟨q9, hyp⟩ := md_ifs hyp
    refine gc_cast (r := (r8.1)) d_GC_seal_26 gw_610 rfl q9 ?_
    refine gc_astore0_n (r := (r8.1)) d_GC_seal_29 (by decide) hc ?_
    replace hc := ag_cs (i := 2) (v := ag_rf (r8.1)) hc (ag_cat_rf _)
    refine gc_aload_n (r := ((r8.1))) d_GC_seal_30 rfl ?_
    obtain ⟨g12, eg12, hyp⟩ := md_bd hyp
    refine gc_geti (r := ((r8.1))) d_GC_seal_31 fr_GC_122 eg12 ?_
    refine ag_if_ne d_GC_seal_34 rfl (fun q => ?_) (fun q => ?_)
    · replace hyp := md_ifn q hyp
      exact ag_dr (ag_d1 rfl ag_d0) (w_GC_seal_51 hC htr hH hyp)
    · replace hyp := md_ifp q hyp
      refine gc_aload_n (r := (some (a))) d_GC_seal_37 rfl ?_
      obtain ⟨g15, eg15, hyp⟩ := md_bd hyp
      refine gc_getr (r := (some (a))) d_GC_seal_38 fr_GC_44 eg15 ?_
      obtain ⟨a16, ea16, hyp⟩ := md_bd hyp
      obtain ⟨r16, er16, hyp⟩ := md_bd hyp
      refine gc_callf (r := (g15)) (as := []) d_GC_seal_41 il_GC_85 ea16 (Nat.le_of_ble_eq_true rfl) (w_AL_size hC (d := d) (by omega) er16) (fun v16 h16 q16 => ?_)
      obtain ⟨rfl, rfl⟩ := q16
      refine ag_bipush d_GC_seal_46 ?_
      refine ag_icmp_lt d_GC_seal_48 rfl (fun q => ?_) (fun q => ?_)
      · replace hyp := md_ifp q hyp
        refine gc_aload_n (r := ((r8.1))) d_GC_seal_59 rfl ?_
        obtain ⟨a20, ea20, hyp⟩ := md_bd hyp
        obtain ⟨r20, er20, hyp⟩ := md_bd hyp
        refine gc_callv (r := ((r8.1))) (as := []) d_GC_seal_60 ml_GC_129 gw_727 rfl sl_Tk_copy ea20 (Nat.le_of_ble_eq_true rfl) (w_Tk_copy hC (d := d) (by omega) er20) (fun v20 h20 q20 => ?_)
        obtain ⟨rfl, rfl⟩ := q20
        refine gc_astore0_n (r := (r20.1)) d_GC_seal_63 (by decide) hc ?_
        replace hc := ag_cs (i := 3) (v := ag_rf (r20.1)) hc (ag_cat_rf _)
        refine gc_aload_n (r := ((r20.1))) d_GC_seal_64 rfl ?_
        refine ag_iconst d_GC_seal_65 ?_
        obtain ⟨h24, eh24, hyp⟩ := md_bd hyp
        refine gc_putf (r := ((r20.1))) d_GC_seal_66 fl_GC_122 (fun q => by cases q) eh24 ?_
        refine gc_aload_n (r := ((r20.1))) d_GC_seal_69 rfl ?_
        refine gc_aload_n (r := ((r20.1))) d_GC_seal_70 rfl ?_
        obtain ⟨g27, eg27, hyp⟩ := md_bd hyp
        refine gc_getr (r := ((r20.1))) d_GC_seal_71 fr_GC_126 eg27 ?_
        obtain ⟨a28, ea28, hyp⟩ := md_bd hyp
        obtain ⟨r28, er28, hyp⟩ := md_bd hyp
        refine gc_callf (r := (g27)) (as := []) d_GC_seal_74 il_GC_85 ea28 (ag_w9 (ag_v1 (ag_cat_rf _) ag_v0) (Nat.le_of_ble_eq_true rfl)) (w_AL_size hC (d := d) (by omega) er28) (fun v28 h28 q28 => ?_)
        obtain ⟨rfl, rfl⟩ := q28
        obtain ⟨h29, eh29, hyp⟩ := md_bd hyp
        refine gc_putf (r := ((r20.1))) d_GC_seal_79 fl_GC_136 (fun q => by cases q) eh29 ?_
        refine gc_aload_n (r := (some (a))) d_GC_seal_82 rfl ?_
        refine gc_aload_n (r := ((r20.1))) d_GC_seal_83 rfl ?_
        obtain ⟨a32, ea32, hyp⟩ := md_bd hyp
        obtain ⟨r32, er32, hyp⟩ := md_bd hyp
        refine gc_callv (r := (some (a))) (as := [ag_rf ((r20.1))]) d_GC_seal_84 ml_GC_139 gw_678 rfl sl_GC_keep ea32 (Nat.le_of_ble_eq_true rfl) (w_GC_keep hC (d := d) (by omega) er32) (fun v32 h32 q32 => ?_)
        obtain ⟨rfl, rfl⟩ := q32
        cases hyp
        exact ag_iret d_GC_seal_87 rfl rfl ⟨rfl, rfl⟩
      · replace hyp := md_ifn q hyp
        exact ag_dr (ag_d1 rfl ag_d0) (w_GC_seal_51 hC htr hH hyp)
  · replace hyp := md_ifp q hyp
    obtain ⟨q34, hyp⟩ := md_ifs hyp
    cases hyp
    exact ag_throw (ci := 14) (names := gc_sup) d_GC_seal_8 d_GC_seal_11 d_GC_seal_12 d_GC_seal_15 rfl gw_692 gw_693 gw_25 rfl (by decide +kernel) (by decide +kernel) xw_GC_117 (by decide) htr (Nat.le_of_ble_eq_true rfl) (by rw [hC.1]; exact q34.1) (by rw [hC.2]; exact q34.2) ⟨rfl, rfl⟩
theorem w_GC_seal {l : Launch} {G : ag_G} {d N : Nat} {C : Nat × Nat} (hC : ag_cN G = C.1 ∧ ag_cS G = C.2) (htr : ∀ e : Env, l.admits e → e.platform.stackTraces = false) (hH : 6 + 1 ≤ d) {a : Nat} {p1 : Int32} {h : ag_H} {x : Int32} {h' : ag_H} (hyp : fn_GC_seal N C a p1 h = some (.inl x, h')) : ag_Met gc_P l G m_GC_seal d [.ref a, .int (p1)] h (fun v h'' => v = some (.int x) ∧ h'' = h') := by
  obtain ⟨d, rfl, hG⟩ := md_dd hH
  exact ag_met (by decide) rfl (Nat.le_of_ble_eq_true rfl) (ag_dr (ag_d1 rfl (ag_d1 rfl ag_d0)) (w_GC_seal_0 hC htr hG hyp))
theorem t_GC_seal {l : Launch} {G : ag_G} {d N : Nat} {C : Nat × Nat} (hC : ag_cN G = C.1 ∧ ag_cS G = C.2) (htr : ∀ e : Env, l.admits e → e.platform.stackTraces = false) (hH : 6 + 1 ≤ d) {a : Nat} {p1 : Int32} {h : ag_H} {x : Nat} {h' : ag_H} (hyp : fn_GC_seal N C a p1 h = some (.inr x, h')) : ag_MetT gc_P l G m_GC_seal d [.ref a, .int (p1)] h (fun x' h'' => x' = x ∧ h'' = h') := by
  obtain ⟨d, rfl, hG⟩ := md_dd hH
  exact ag_metT (by decide) rfl (Nat.le_of_ble_eq_true rfl) (ag_dr (ag_d1 rfl (ag_d1 rfl ag_d0)) (w_GC_seal_0 hC htr hG hyp))
def fn_GC_canTamper_70 (N : Nat) (C : Nat × Nat) (s0 : Int32) (h : ag_H) : Option ((Int32) × ag_H) := if md_01 (s0) = true then (some ((s0), h)) else none
def fn_GC_canTamper_69 (N : Nat) (C : Nat × Nat) (h : ag_H) : Option ((Int32) × ag_H) := fn_GC_canTamper_70 N C (Int32.ofInt 0) h
def fn_GC_canTamper_65 (N : Nat) (C : Nat × Nat) (h : ag_H) : Option ((Int32) × ag_H) := fn_GC_canTamper_70 N C (Int32.ofInt 1) h
def fn_GC_canTamper_30 (N : Nat) (C : Nat × Nat) (x0 : Int32) (x1 : Int32) (x2 : Int32) (x3 : Int32) (s0 : Int32) (h : ag_H) : Option ((Int32) × ag_H) := if (x1) ≤ (0) then (fn_GC_canTamper_69 N C  h) else (if ((Int8.ofInt (6)).toInt32) < (x1) then (fn_GC_canTamper_69 N C  h) else (if (x2) < (0) then (fn_GC_canTamper_69 N C  h) else (if (x0) ≤ (x2) then (fn_GC_canTamper_69 N C  h) else (if (s0) = (0) then (fn_GC_canTamper_65 N C  h) else (if (x3) < (0) then (fn_GC_canTamper_69 N C  h) else (if (x0) ≤ (x3) then (fn_GC_canTamper_69 N C  h) else (fn_GC_canTamper_65 N C  h)))))))
def fn_GC_canTamper_25 (N : Nat) (C : Nat × Nat) (x0 : Int32) (x1 : Int32) (x2 : Int32) (x3 : Int32) (h : ag_H) : Option ((Int32) × ag_H) := fn_GC_canTamper_30 N C (x0) (x1) (x2) (x3) (Int32.ofInt 1) h
def fn_GC_canTamper_14 (N : Nat) (C : Nat × Nat) (s0 : Int32) (h : ag_H) : Option ((Int32) × ag_H) := if md_01 (s0) = true then (some ((s0), h)) else none
def fn_GC_canTamper_0 (N : Nat) (C : Nat × Nat) (x0 : Int32) (x1 : Int32) (x2 : Int32) (x3 : Int32) (h : ag_H) : Option ((Int32) × ag_H) := if (x1) = (0) then (if (x0) ≤ (Int32.ofInt 1) then (fn_GC_canTamper_14 N C (Int32.ofInt 0) h) else (fn_GC_canTamper_14 N C (Int32.ofInt 1) h)) else (if (x1) = (Int32.ofInt 1) then (fn_GC_canTamper_25 N C (x0) (x1) (x2) (x3) h) else (if (x1) = (Int32.ofInt 2) then (fn_GC_canTamper_25 N C (x0) (x1) (x2) (x3) h) else (fn_GC_canTamper_30 N C (x0) (x1) (x2) (x3) (Int32.ofInt 0) h)))
def fn_GC_canTamper (N : Nat) (C : Nat × Nat) (p0 : Int32) (p1 : Int32) (p2 : Int32) (p3 : Int32) (h : ag_H) : Option ((Int32) × ag_H) := fn_GC_canTamper_0 N C p0 p1 p2 p3 h
theorem w_GC_canTamper_70 {l : Launch} {G : ag_G} {d N : Nat} {C : Nat × Nat} (hC : ag_cN G = C.1 ∧ ag_cS G = C.2) {s0 : Int32} {h : ag_H} {res : (Int32) × ag_H} (hyp : fn_GC_canTamper_70 N C s0 h = some res) : ag_ev gc_P l G m_GC_canTamper (d) (ag_ret gc_P G (fun v h' => v = some (.int res.1) ∧ h' = res.2)) 70 [] [.int (s0)] h := by
  unfold fn_GC_canTamper_70 at hyp
  have hc : ag_C1 [] := ag_c0
  obtain ⟨q1, hyp⟩ := md_ifs hyp
  cases hyp
  exact ag_iret d_GC_canTamper_70 rfl (md_01n q1) ⟨rfl, rfl⟩
theorem w_GC_canTamper_69 {l : Launch} {G : ag_G} {d N : Nat} {C : Nat × Nat} (hC : ag_cN G = C.1 ∧ ag_cS G = C.2) {h : ag_H} {res : (Int32) × ag_H} (hyp : fn_GC_canTamper_69 N C h = some res) : ag_ev gc_P l G m_GC_canTamper (d) (ag_ret gc_P G (fun v h' => v = some (.int res.1) ∧ h' = res.2)) 69 [] [] h := by
  unfold fn_GC_canTamper_69 at hyp
  have hc : ag_C1 [] := ag_c0
  refine ag_iconst d_GC_canTamper_69 ?_
  exact ag_dr ag_d0 (w_GC_canTamper_70 hC hyp)
theorem w_GC_canTamper_65 {l : Launch} {G : ag_G} {d N : Nat} {C : Nat × Nat} (hC : ag_cN G = C.1 ∧ ag_cS G = C.2) {h : ag_H} {res : (Int32) × ag_H} (hyp : fn_GC_canTamper_65 N C h = some res) : ag_ev gc_P l G m_GC_canTamper (d) (ag_ret gc_P G (fun v h' => v = some (.int res.1) ∧ h' = res.2)) 65 [] [] h := by
  unfold fn_GC_canTamper_65 at hyp
  have hc : ag_C1 [] := ag_c0
  refine ag_iconst d_GC_canTamper_65 ?_
  refine ag_goto d_GC_canTamper_66 rfl ?_
  exact ag_dr ag_d0 (w_GC_canTamper_70 hC hyp)
theorem w_GC_canTamper_30 {l : Launch} {G : ag_G} {d N : Nat} {C : Nat × Nat} (hC : ag_cN G = C.1 ∧ ag_cS G = C.2) {x0 : Int32} {x1 : Int32} {x2 : Int32} {x3 : Int32} {s0 : Int32} {h : ag_H} {res : (Int32) × ag_H} (hyp : fn_GC_canTamper_30 N C x0 x1 x2 x3 s0 h = some res) : ag_ev gc_P l G m_GC_canTamper (d) (ag_ret gc_P G (fun v h' => v = some (.int res.1) ∧ h' = res.2)) 30 [(0, .int (x0)), (1, .int (x1)), (2, .int (x2)), (3, .int (x3))] [.int (s0)] h := by
  unfold fn_GC_canTamper_30 at hyp
  have hc : ag_C1 [(0, .int (x0)), (1, .int (x1)), (2, .int (x2)), (3, .int (x3))] := (ag_c1 rfl (ag_c1 rfl (ag_c1 rfl (ag_c1 rfl ag_c0))))
  refine gc_istore d_GC_canTamper_30 (by decide) hc ?_
  replace hc := ag_cs (i := 4) (v := .int (s0)) hc rfl
  refine ag_iload_n d_GC_canTamper_32 rfl ?_
  refine ag_if_le d_GC_canTamper_33 rfl (fun q => ?_) (fun q => ?_)
  · replace hyp := md_ifp q hyp
    exact ag_dr ag_d0 (w_GC_canTamper_69 hC hyp)
  · replace hyp := md_ifn q hyp
    refine ag_iload_n d_GC_canTamper_36 rfl ?_
    refine ag_bipush d_GC_canTamper_37 ?_
    refine ag_icmp_gt d_GC_canTamper_39 rfl (fun q => ?_) (fun q => ?_)
    · replace hyp := md_ifp q hyp
      exact ag_dr ag_d0 (w_GC_canTamper_69 hC hyp)
    · replace hyp := md_ifn q hyp
      refine ag_iload_n d_GC_canTamper_42 rfl ?_
      refine ag_if_lt d_GC_canTamper_43 rfl (fun q => ?_) (fun q => ?_)
      · replace hyp := md_ifp q hyp
        exact ag_dr ag_d0 (w_GC_canTamper_69 hC hyp)
      · replace hyp := md_ifn q hyp
        refine ag_iload_n d_GC_canTamper_46 rfl ?_
        refine ag_iload_n d_GC_canTamper_47 rfl ?_
        refine ag_icmp_ge d_GC_canTamper_48 rfl (fun q => ?_) (fun q => ?_)
        · replace hyp := md_ifp q hyp
          exact ag_dr ag_d0 (w_GC_canTamper_69 hC hyp)
        · replace hyp := md_ifn q hyp
          refine ag_iload d_GC_canTamper_51 rfl ?_
          refine ag_if_eq d_GC_canTamper_53 rfl (fun q => ?_) (fun q => ?_)
          · replace hyp := md_ifp q hyp
            exact ag_dr ag_d0 (w_GC_canTamper_65 hC hyp)
          · replace hyp := md_ifn q hyp
            refine ag_iload_n d_GC_canTamper_56 rfl ?_
            refine ag_if_lt d_GC_canTamper_57 rfl (fun q => ?_) (fun q => ?_)
            · replace hyp := md_ifp q hyp
              exact ag_dr ag_d0 (w_GC_canTamper_69 hC hyp)
            · replace hyp := md_ifn q hyp
              refine ag_iload_n d_GC_canTamper_60 rfl ?_
              refine ag_iload_n d_GC_canTamper_61 rfl ?_
              refine ag_icmp_ge d_GC_canTamper_62 rfl (fun q => ?_) (fun q => ?_)
              · replace hyp := md_ifp q hyp
                exact ag_dr ag_d0 (w_GC_canTamper_69 hC hyp)
              · replace hyp := md_ifn q hyp
                exact ag_dr ag_d0 (w_GC_canTamper_65 hC hyp)
theorem w_GC_canTamper_25 {l : Launch} {G : ag_G} {d N : Nat} {C : Nat × Nat} (hC : ag_cN G = C.1 ∧ ag_cS G = C.2) {x0 : Int32} {x1 : Int32} {x2 : Int32} {x3 : Int32} {h : ag_H} {res : (Int32) × ag_H} (hyp : fn_GC_canTamper_25 N C x0 x1 x2 x3 h = some res) : ag_ev gc_P l G m_GC_canTamper (d) (ag_ret gc_P G (fun v h' => v = some (.int res.1) ∧ h' = res.2)) 25 [(0, .int (x0)), (1, .int (x1)), (2, .int (x2)), (3, .int (x3))] [] h := by
  unfold fn_GC_canTamper_25 at hyp
  have hc : ag_C1 [(0, .int (x0)), (1, .int (x1)), (2, .int (x2)), (3, .int (x3))] := (ag_c1 rfl (ag_c1 rfl (ag_c1 rfl (ag_c1 rfl ag_c0))))
  refine ag_iconst d_GC_canTamper_25 ?_
  refine ag_goto d_GC_canTamper_26 rfl ?_
  exact ag_dr (ag_d1 rfl (ag_d1 rfl (ag_d1 rfl (ag_d1 rfl ag_d0)))) (w_GC_canTamper_30 hC hyp)
theorem w_GC_canTamper_14 {l : Launch} {G : ag_G} {d N : Nat} {C : Nat × Nat} (hC : ag_cN G = C.1 ∧ ag_cS G = C.2) {s0 : Int32} {h : ag_H} {res : (Int32) × ag_H} (hyp : fn_GC_canTamper_14 N C s0 h = some res) : ag_ev gc_P l G m_GC_canTamper (d) (ag_ret gc_P G (fun v h' => v = some (.int res.1) ∧ h' = res.2)) 14 [] [.int (s0)] h := by
  unfold fn_GC_canTamper_14 at hyp
  have hc : ag_C1 [] := ag_c0
  obtain ⟨q1, hyp⟩ := md_ifs hyp
  cases hyp
  exact ag_iret d_GC_canTamper_14 rfl (md_01n q1) ⟨rfl, rfl⟩
theorem w_GC_canTamper_0 {l : Launch} {G : ag_G} {d N : Nat} {C : Nat × Nat} (hC : ag_cN G = C.1 ∧ ag_cS G = C.2) {x0 : Int32} {x1 : Int32} {x2 : Int32} {x3 : Int32} {h : ag_H} {res : (Int32) × ag_H} (hyp : fn_GC_canTamper_0 N C x0 x1 x2 x3 h = some res) : ag_ev gc_P l G m_GC_canTamper (d) (ag_ret gc_P G (fun v h' => v = some (.int res.1) ∧ h' = res.2)) 0 [(0, .int (x0)), (1, .int (x1)), (2, .int (x2)), (3, .int (x3))] [] h := by
  unfold fn_GC_canTamper_0 at hyp
  have hc : ag_C1 [(0, .int (x0)), (1, .int (x1)), (2, .int (x2)), (3, .int (x3))] := (ag_c1 rfl (ag_c1 rfl (ag_c1 rfl (ag_c1 rfl ag_c0))))
  refine ag_iload_n d_GC_canTamper_0 rfl ?_
  refine ag_if_ne d_GC_canTamper_1 rfl (fun q => ?_) (fun q => ?_)
  · replace hyp := md_ifn q hyp
    refine ag_iload_n d_GC_canTamper_15 rfl ?_
    refine ag_iconst d_GC_canTamper_16 ?_
    refine ag_icmp_eq d_GC_canTamper_17 rfl (fun q => ?_) (fun q => ?_)
    · replace hyp := md_ifp q hyp
      exact ag_dr (ag_d1 rfl (ag_d1 rfl (ag_d1 rfl (ag_d1 rfl ag_d0)))) (w_GC_canTamper_25 hC hyp)
    · replace hyp := md_ifn q hyp
      refine ag_iload_n d_GC_canTamper_20 rfl ?_
      refine ag_iconst d_GC_canTamper_21 ?_
      refine ag_icmp_ne d_GC_canTamper_22 rfl (fun q => ?_) (fun q => ?_)
      · replace hyp := md_ifn q hyp
        refine ag_iconst d_GC_canTamper_29 ?_
        exact ag_dr (ag_d1 rfl (ag_d1 rfl (ag_d1 rfl (ag_d1 rfl ag_d0)))) (w_GC_canTamper_30 hC hyp)
      · replace hyp := md_ifp q hyp
        exact ag_dr (ag_d1 rfl (ag_d1 rfl (ag_d1 rfl (ag_d1 rfl ag_d0)))) (w_GC_canTamper_25 hC hyp)
  · replace hyp := md_ifp q hyp
    refine ag_iload_n d_GC_canTamper_4 rfl ?_
    refine ag_iconst d_GC_canTamper_5 ?_
    refine ag_icmp_le d_GC_canTamper_6 rfl (fun q => ?_) (fun q => ?_)
    · replace hyp := md_ifp q hyp
      refine ag_iconst d_GC_canTamper_13 ?_
      exact ag_dr ag_d0 (w_GC_canTamper_14 hC hyp)
    · replace hyp := md_ifn q hyp
      refine ag_iconst d_GC_canTamper_9 ?_
      refine ag_goto d_GC_canTamper_10 rfl ?_
      exact ag_dr ag_d0 (w_GC_canTamper_14 hC hyp)
theorem w_GC_canTamper {l : Launch} {G : ag_G} {d N : Nat} {C : Nat × Nat} (hC : ag_cN G = C.1 ∧ ag_cS G = C.2) (hH : 0 ≤ d) {p0 : Int32} {p1 : Int32} {p2 : Int32} {p3 : Int32} {h : ag_H} {res : (Int32) × ag_H} (hyp : fn_GC_canTamper N C p0 p1 p2 p3 h = some res) : ag_Met gc_P l G m_GC_canTamper d [.int (p0), .int (p1), .int (p2), .int (p3)] h (fun v h' => v = some (.int res.1) ∧ h' = res.2) := by
  exact ag_met (by decide) rfl (Nat.le_of_ble_eq_true rfl) (ag_dr (ag_d1 rfl (ag_d1 rfl (ag_d1 rfl (ag_d1 rfl ag_d0)))) (w_GC_canTamper_0 hC hyp))
def fn_AL_fastRemove_34 (N : Nat) (C : Nat × Nat) (a : Nat) (x1 : Option Nat) (x3 : Int32) (h : ag_H) : Option ((Int32) × ag_H) := (ag_pf h (ag_rf (some (a))) 11 1 .int (.int (x3))).bind fun h5 => (ag_as h5 (x1) (x3) (none)).bind fun h7 => some (0, h7)
def fn_AL_fastRemove_0 (N : Nat) (C : Nat × Nat) (a : Nat) (x1 : Option Nat) (x2 : Int32) (h : ag_H) : Option ((Int32) × ag_H) := (ag_gi h (some (a)) 11 2).bind fun g3 => (ag_pf h (ag_rf (some (a))) 11 2 .int (.int ((g3) + (Int32.ofInt 1)))).bind fun h6 => (ag_gi h6 (some (a)) 11 1).bind fun g8 => if ((g8) - (Int32.ofInt 1)) ≤ (x2) then (fn_AL_fastRemove_34 N C a (x1) ((g8) - (Int32.ofInt 1)) h6) else (none)
def fn_AL_fastRemove (N : Nat) (C : Nat × Nat) (a : Nat) (p1 : Option Nat) (p2 : Int32) (h : ag_H) : Option ((Int32) × ag_H) := fn_AL_fastRemove_0 N C a p1 p2 h
theorem w_AL_fastRemove_34 {l : Launch} {G : ag_G} {d N : Nat} {C : Nat × Nat} {a : Nat} (hC : ag_cN G = C.1 ∧ ag_cS G = C.2) {x1 : Option Nat} {x3 : Int32} {h : ag_H} {res : (Int32) × ag_H} (hyp : fn_AL_fastRemove_34 N C a x1 x3 h = some res) : ag_ev gc_P l G m_AL_fastRemove (d) (ag_ret gc_P G (fun v h' => v = none ∧ h' = res.2)) 34 [(0, .ref a), (1, ag_rf (x1)), (3, .int (x3))] [] h := by
  unfold fn_AL_fastRemove_34 at hyp
  have hc : ag_C1 [(0, .ref a), (1, ag_rf (x1)), (3, .int (x3))] := (ag_c1 rfl (ag_c1 (ag_cat_rf _) (ag_c1 rfl ag_c0)))
  refine gc_aload_n (r := (x1)) d_AL_fastRemove_34 rfl ?_
  refine gc_aload_n (r := (some (a))) d_AL_fastRemove_35 rfl ?_
  refine ag_iload_n d_AL_fastRemove_36 rfl ?_
  refine ag_dup_x1 d_AL_fastRemove_37 rfl rfl ?_
  obtain ⟨h5, eh5, hyp⟩ := md_bd hyp
  refine gc_putf (r := (some (a))) d_AL_fastRemove_38 fl_AL_48 (fun q => by cases q) eh5 ?_
  refine ag_null d_AL_fastRemove_41 ?_
  obtain ⟨h7, eh7, hyp⟩ := md_bd hyp
  refine gc_ast (r := (x1)) (w := (none)) d_AL_fastRemove_42 eh7 ?_
  cases hyp
  exact ag_vret d_AL_fastRemove_43 rfl ⟨rfl, rfl⟩
theorem w_AL_fastRemove_0 {l : Launch} {G : ag_G} {d N : Nat} {C : Nat × Nat} {a : Nat} (hC : ag_cN G = C.1 ∧ ag_cS G = C.2) {x1 : Option Nat} {x2 : Int32} {h : ag_H} {res : (Int32) × ag_H} (hyp : fn_AL_fastRemove_0 N C a x1 x2 h = some res) : ag_ev gc_P l G m_AL_fastRemove (d) (ag_ret gc_P G (fun v h' => v = none ∧ h' = res.2)) 0 [(0, .ref a), (1, ag_rf (x1)), (2, .int (x2))] [] h := by
  unfold fn_AL_fastRemove_0 at hyp
  have hc : ag_C1 [(0, .ref a), (1, ag_rf (x1)), (2, .int (x2))] := (ag_c1 rfl (ag_c1 (ag_cat_rf _) (ag_c1 rfl ag_c0)))
  refine gc_aload_n (r := (some (a))) d_AL_fastRemove_0 rfl ?_
  refine ag_dup d_AL_fastRemove_1 rfl ?_
  obtain ⟨g3, eg3, hyp⟩ := md_bd hyp
  refine gc_geti (r := (some (a))) d_AL_fastRemove_2 fr_AL_63 eg3 ?_
  refine ag_iconst d_AL_fastRemove_5 ?_
  refine ag_iadd d_AL_fastRemove_6 ?_
  obtain ⟨h6, eh6, hyp⟩ := md_bd hyp
  refine gc_putf (r := (some (a))) d_AL_fastRemove_7 fl_AL_63 (fun q => by cases q) eh6 ?_
  refine gc_aload_n (r := (some (a))) d_AL_fastRemove_10 rfl ?_
  obtain ⟨g8, eg8, hyp⟩ := md_bd hyp
  refine gc_geti (r := (some (a))) d_AL_fastRemove_11 fr_AL_48 eg8 ?_
  refine ag_iconst d_AL_fastRemove_14 ?_
  refine ag_isub d_AL_fastRemove_15 ?_
  refine ag_dup d_AL_fastRemove_16 rfl ?_
  refine gc_istore_n d_AL_fastRemove_17 (by decide) hc ?_
  replace hc := ag_cs (i := 3) (v := .int ((g8) - (Int32.ofInt 1))) hc rfl
  refine ag_iload_n d_AL_fastRemove_18 rfl ?_
  refine ag_icmp_le d_AL_fastRemove_19 rfl (fun q => ?_) (fun q => ?_)
  · replace hyp := md_ifp q hyp
    exact ag_dr (ag_d1 rfl (ag_d1 rfl (ag_d1 rfl ag_d0))) (w_AL_fastRemove_34 hC hyp)
  · replace hyp := md_ifn q hyp
    refine gc_aload_n (r := (x1)) d_AL_fastRemove_22 rfl ?_
    refine ag_iload_n d_AL_fastRemove_23 rfl ?_
    refine ag_iconst d_AL_fastRemove_24 ?_
    refine ag_iadd d_AL_fastRemove_25 ?_
    refine gc_aload_n (r := (x1)) d_AL_fastRemove_26 rfl ?_
    refine ag_iload_n d_AL_fastRemove_27 rfl ?_
    refine ag_iload_n d_AL_fastRemove_28 rfl ?_
    refine ag_iload_n d_AL_fastRemove_29 rfl ?_
    refine ag_isub d_AL_fastRemove_30 ?_
    cases hyp
theorem w_AL_fastRemove {l : Launch} {G : ag_G} {d N : Nat} {C : Nat × Nat} (hC : ag_cN G = C.1 ∧ ag_cS G = C.2) (hH : 0 ≤ d) {a : Nat} {p1 : Option Nat} {p2 : Int32} {h : ag_H} {res : (Int32) × ag_H} (hyp : fn_AL_fastRemove N C a p1 p2 h = some res) : ag_Met gc_P l G m_AL_fastRemove d [.ref a, ag_rf (p1), .int (p2)] h (fun v h' => v = none ∧ h' = res.2) := by
  exact ag_met0 (by decide) rfl (ag_v1 rfl (ag_v1 (ag_cat_rf _) (ag_v1 rfl ag_v0))) (Nat.le_of_ble_eq_true rfl) (ag_dr (ag_d1 rfl (ag_d1 rfl (ag_d1 rfl ag_d0))) (w_AL_fastRemove_0 hC hyp))
def fn_AL_remove_0 (N : Nat) (C : Nat × Nat) (a : Nat) (x1 : Int32) (h : ag_H) : Option ((Option Nat) × ag_H) := (ag_gi h (some (a)) 11 1).bind fun g3 => (fn_Ob_checkIndex N C (x1) (g3) h).bind fun r4 => (ag_gr r4.2 (some (a)) 11 0).bind fun g7 => (ag_ao r4.2 ((g7))).bind fun p11 => if md_in (x1) p11.1 = true then ((ag_rc r4.2 (some (a)) 11).bind fun a16 => (fn_AL_fastRemove N C a16 ((g7)) (x1) r4.2).bind fun r16 => some (((p11.2 (x1).toNatClampNeg)), r16.2)) else none
def fn_AL_remove (N : Nat) (C : Nat × Nat) (a : Nat) (p1 : Int32) (h : ag_H) : Option ((Option Nat) × ag_H) := fn_AL_remove_0 N C a p1 h
theorem w_AL_remove_0 {l : Launch} {G : ag_G} {d N : Nat} {C : Nat × Nat} {a : Nat} (hC : ag_cN G = C.1 ∧ ag_cS G = C.2) (hH : 1 ≤ d) {x1 : Int32} {h : ag_H} {res : (Option Nat) × ag_H} (hyp : fn_AL_remove_0 N C a x1 h = some res) : ag_ev gc_P l G m_AL_remove (d + 1) (ag_ret gc_P G (fun v h' => v = some (ag_rf res.1) ∧ h' = res.2)) 0 [(0, .ref a), (1, .int (x1))] [] h := by
  unfold fn_AL_remove_0 at hyp
  have hc : ag_C1 [(0, .ref a), (1, .int (x1))] := (ag_c1 rfl (ag_c1 rfl ag_c0))
  refine ag_iload_n d_AL_remove_0 rfl ?_
  refine gc_aload_n (r := (some (a))) d_AL_remove_1 rfl ?_
  obtain ⟨g3, eg3, hyp⟩ := md_bd hyp
  refine gc_geti (r := (some (a))) d_AL_remove_2 fr_AL_48 eg3 ?_
  obtain ⟨r4, er4, hyp⟩ := md_bd hyp
  refine ag_calls (as := [.int (x1), .int (g3)]) d_AL_remove_5 ml_AL_118 gw_717 (Nat.le_of_ble_eq_true rfl) (w_Ob_checkIndex hC (d := d) (by omega) er4) (fun v4 h4 q4 => ?_)
  obtain ⟨rfl, rfl⟩ := q4
  refine ag_pop d_AL_remove_8 rfl ?_
  refine gc_aload_n (r := (some (a))) d_AL_remove_9 rfl ?_
  obtain ⟨g7, eg7, hyp⟩ := md_bd hyp
  refine gc_getr (r := (some (a))) d_AL_remove_10 fr_AL_9 eg7 ?_
  refine gc_astore0_n (r := (g7)) d_AL_remove_13 (by decide) hc ?_
  replace hc := ag_cs (i := 2) (v := ag_rf (g7)) hc (ag_cat_rf _)
  refine gc_aload_n (r := ((g7))) d_AL_remove_14 rfl ?_
  refine ag_iload_n d_AL_remove_15 rfl ?_
  obtain ⟨p11, ep11, hyp⟩ := md_bd hyp
  obtain ⟨q11, hyp⟩ := md_ifs hyp
  refine gc_ald (r := ((g7))) d_AL_remove_16 ep11 q11 ?_
  refine gc_astore0_n (r := (p11.2 (x1).toNatClampNeg)) d_AL_remove_17 (by decide) hc ?_
  replace hc := ag_cs (i := 3) (v := ag_rf (p11.2 (x1).toNatClampNeg)) hc (ag_cat_rf _)
  refine gc_aload_n (r := (some (a))) d_AL_remove_18 rfl ?_
  refine gc_aload_n (r := ((g7))) d_AL_remove_19 rfl ?_
  refine ag_iload_n d_AL_remove_20 rfl ?_
  obtain ⟨a16, ea16, hyp⟩ := md_bd hyp
  obtain ⟨r16, er16, hyp⟩ := md_bd hyp
  refine gc_callv (r := (some (a))) (as := [ag_rf ((g7)), .int (x1)]) d_AL_remove_21 ml_AL_144 gw_771 rfl sl_AL_fastRemove ea16 (Nat.le_of_ble_eq_true rfl) (w_AL_fastRemove hC (d := d) (by omega) er16) (fun v16 h16 q16 => ?_)
  obtain ⟨rfl, rfl⟩ := q16
  refine gc_aload_n (r := ((p11.2 (x1).toNatClampNeg))) d_AL_remove_24 rfl ?_
  cases hyp
  exact gc_aret (r := ((p11.2 (x1).toNatClampNeg))) d_AL_remove_25 rfl (Or.inl ⟨_, rfl⟩) ⟨rfl, rfl⟩
theorem w_AL_remove {l : Launch} {G : ag_G} {d N : Nat} {C : Nat × Nat} (hC : ag_cN G = C.1 ∧ ag_cS G = C.2) (hH : 1 + 1 ≤ d) {a : Nat} {p1 : Int32} {h : ag_H} {res : (Option Nat) × ag_H} (hyp : fn_AL_remove N C a p1 h = some res) : ag_Met gc_P l G m_AL_remove d [.ref a, .int (p1)] h (fun v h' => v = some (ag_rf res.1) ∧ h' = res.2) := by
  obtain ⟨d, rfl, hG⟩ := md_dd hH
  exact ag_met (by decide) rfl (Nat.le_of_ble_eq_true rfl) (ag_dr (ag_d1 rfl (ag_d1 rfl ag_d0)) (w_AL_remove_0 hC hG hyp))
def fn_Tk_cutTo_12 (N : Nat) (C : Nat × Nat) (a : Nat) : Nat → Int32 → Int32 → ag_H → Option ((Int32) × ag_H)
  | 0, _, _, _ => none
  | n + 1, x1, x2, h => if (x2) < (x1) then (some (0, h)) else ((ag_gr h (some (a)) 8 0).bind fun g6 => (ag_rc h (g6) 11).bind fun a8 => (fn_AL_remove N C a8 (x2) h).bind fun r8 => fn_Tk_cutTo_12 N C a n (x1) ((x2) + Int32.ofInt (-1)) r8.2)
theorem fe_Tk_cutTo_12 (N : Nat) (C : Nat × Nat) (a : Nat) (n : Nat) (x1 : Int32) (x2 : Int32) (h : ag_H) : fn_Tk_cutTo_12 N C a (n + 1) x1 x2 h = (if (x2) < (x1) then (some (0, h)) else ((ag_gr h (some (a)) 8 0).bind fun g6 => (ag_rc h (g6) 11).bind fun a8 => (fn_AL_remove N C a8 (x2) h).bind fun r8 => fn_Tk_cutTo_12 N C a n (x1) ((x2) + Int32.ofInt (-1)) r8.2)) := rfl
def fn_Tk_cutTo_0 (N : Nat) (C : Nat × Nat) (a : Nat) (x1 : Int32) (h : ag_H) : Option ((Int32) × ag_H) := (ag_gr h (some (a)) 8 0).bind fun g2 => (ag_rc h (g2) 11).bind fun a3 => (fn_AL_size N C a3  h).bind fun r3 => fn_Tk_cutTo_12 N C a N (x1) ((r3.1) - (Int32.ofInt 1)) r3.2
def fn_Tk_cutTo (N : Nat) (C : Nat × Nat) (a : Nat) (p1 : Int32) (h : ag_H) : Option ((Int32) × ag_H) := fn_Tk_cutTo_0 N C a p1 h
theorem w_Tk_cutTo_12 {l : Launch} {G : ag_G} {d N : Nat} {C : Nat × Nat} {a : Nat} (hC : ag_cN G = C.1 ∧ ag_cS G = C.2) (hH : 2 ≤ d) : ∀ (n : Nat) (res : (Int32) × ag_H) (x1 : Int32) (x2 : Int32) (h : ag_H) , fn_Tk_cutTo_12 N C a n x1 x2 h = some res → ag_ev gc_P l G m_Tk_cutTo (d + 1) (ag_ret gc_P G (fun v h' => v = none ∧ h' = res.2)) 12 [(0, .ref a), (1, .int (x1)), (2, .int (x2))] [] h := by
  intro n
  induction n with
  | zero =>
    intro res x1 x2 h hyp
    cases hyp
  | succ n ih =>
    intro res x1 x2 h hyp
    rw [fe_Tk_cutTo_12] at hyp
    have hc : ag_C1 [(0, .ref a), (1, .int (x1)), (2, .int (x2))] := (ag_c1 rfl (ag_c1 rfl (ag_c1 rfl ag_c0)))
    refine ag_iload_n d_Tk_cutTo_12 rfl ?_
    refine ag_iload_n d_Tk_cutTo_13 rfl ?_
    refine ag_icmp_lt d_Tk_cutTo_14 rfl (fun q => ?_) (fun q => ?_)
    · replace hyp := md_ifp q hyp
      cases hyp
      exact ag_vret d_Tk_cutTo_34 rfl ⟨rfl, rfl⟩
    · replace hyp := md_ifn q hyp
      refine gc_aload_n (r := (some (a))) d_Tk_cutTo_17 rfl ?_
      obtain ⟨g6, eg6, hyp⟩ := md_bd hyp
      refine gc_getr (r := (some (a))) d_Tk_cutTo_18 fr_Tk_10 eg6 ?_
      refine ag_iload_n d_Tk_cutTo_21 rfl ?_
      obtain ⟨a8, ea8, hyp⟩ := md_bd hyp
      obtain ⟨r8, er8, hyp⟩ := md_bd hyp
      refine gc_callf (r := (g6)) (as := [.int (x2)]) d_Tk_cutTo_22 il_Tk_44 ea8 (Nat.le_of_ble_eq_true rfl) (w_AL_remove hC (d := d) (by omega) er8) (fun v8 h8 q8 => ?_)
      obtain ⟨rfl, rfl⟩ := q8
      refine ag_pop d_Tk_cutTo_27 (ag_cat_rf _) ?_
      refine gc_iinc d_Tk_cutTo_28 rfl (by decide) hc ?_
      replace hc := ag_cs (i := 2) (v := .int ((x2) + Int32.ofInt (-1))) hc rfl
      refine ag_goto d_Tk_cutTo_31 rfl ?_
      exact ag_dr (ag_d1 rfl (ag_d1 rfl (ag_d1 rfl ag_d0))) (ih _ _ _ _ hyp)
theorem w_Tk_cutTo_0 {l : Launch} {G : ag_G} {d N : Nat} {C : Nat × Nat} {a : Nat} (hC : ag_cN G = C.1 ∧ ag_cS G = C.2) (hH : 2 ≤ d) {x1 : Int32} {h : ag_H} {res : (Int32) × ag_H} (hyp : fn_Tk_cutTo_0 N C a x1 h = some res) : ag_ev gc_P l G m_Tk_cutTo (d + 1) (ag_ret gc_P G (fun v h' => v = none ∧ h' = res.2)) 0 [(0, .ref a), (1, .int (x1))] [] h := by
  unfold fn_Tk_cutTo_0 at hyp
  have hc : ag_C1 [(0, .ref a), (1, .int (x1))] := (ag_c1 rfl (ag_c1 rfl ag_c0))
  refine gc_aload_n (r := (some (a))) d_Tk_cutTo_0 rfl ?_
  obtain ⟨g2, eg2, hyp⟩ := md_bd hyp
  refine gc_getr (r := (some (a))) d_Tk_cutTo_1 fr_Tk_10 eg2 ?_
  obtain ⟨a3, ea3, hyp⟩ := md_bd hyp
  obtain ⟨r3, er3, hyp⟩ := md_bd hyp
  refine gc_callf (r := (g2)) (as := []) d_Tk_cutTo_4 il_Tk_17 ea3 (Nat.le_of_ble_eq_true rfl) (w_AL_size hC (d := d) (by omega) er3) (fun v3 h3 q3 => ?_)
  obtain ⟨rfl, rfl⟩ := q3
  refine ag_iconst d_Tk_cutTo_9 ?_
  refine ag_isub d_Tk_cutTo_10 ?_
  refine gc_istore_n d_Tk_cutTo_11 (by decide) hc ?_
  replace hc := ag_cs (i := 2) (v := .int ((r3.1) - (Int32.ofInt 1))) hc rfl
  exact ag_dr (ag_d1 rfl (ag_d1 rfl (ag_d1 rfl ag_d0))) (w_Tk_cutTo_12 hC hH N _ _ _ _ hyp)
theorem w_Tk_cutTo {l : Launch} {G : ag_G} {d N : Nat} {C : Nat × Nat} (hC : ag_cN G = C.1 ∧ ag_cS G = C.2) (hH : 2 + 1 ≤ d) {a : Nat} {p1 : Int32} {h : ag_H} {res : (Int32) × ag_H} (hyp : fn_Tk_cutTo N C a p1 h = some res) : ag_Met gc_P l G m_Tk_cutTo d [.ref a, .int (p1)] h (fun v h' => v = none ∧ h' = res.2) := by
  obtain ⟨d, rfl, hG⟩ := md_dd hH
  exact ag_met (by decide) rfl (Nat.le_of_ble_eq_true rfl) (ag_dr (ag_d1 rfl (ag_d1 rfl ag_d0)) (w_Tk_cutTo_0 hC hG hyp))
