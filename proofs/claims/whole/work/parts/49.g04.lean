/-! AL_set, Tk_changeLink, Tk_swapBlocks, Tk_swapLinks, Tk_signAnew, GC_tamper, Fa_begin, Jg_begin, Lk_isSignedBy, Tk_isRightFor, Fa_order, Fa_sort, Jg_end -/
def fn_AL_set_0 (N : Nat) (C : Nat × Nat) (a : Nat) (x1 : Int32) (x2 : Option Nat) (h : ag_H) : Option ((Option Nat) × ag_H) := (ag_gi h (some (a)) 11 1).bind fun g3 => (fn_Ob_checkIndex N C (x1) (g3) h).bind fun r4 => (ag_rc r4.2 (some (a)) 11).bind fun a8 => (fn_AL_elementData N C a8 (x1) r4.2).bind fun r8 => (ag_gr r8.2 (some (a)) 11 0).bind fun g11 => (ag_as r8.2 (g11) (x1) (x2)).bind fun h14 => some (((r8.1)), h14)
def fn_AL_set (N : Nat) (C : Nat × Nat) (a : Nat) (p1 : Int32) (p2 : Option Nat) (h : ag_H) : Option ((Option Nat) × ag_H) := fn_AL_set_0 N C a p1 p2 h
theorem w_AL_set_0 {l : Launch} {G : ag_G} {d N : Nat} {C : Nat × Nat} {a : Nat} (hC : ag_cN G = C.1 ∧ ag_cS G = C.2) (hH : 1 ≤ d) {x1 : Int32} {x2 : Option Nat} {h : ag_H} {res : (Option Nat) × ag_H} (hyp : fn_AL_set_0 N C a x1 x2 h = some res) : ag_ev gc_P l G m_AL_set (d + 1) (ag_ret gc_P G (fun v h' => v = some (ag_rf res.1) ∧ h' = res.2)) 0 [(0, .ref a), (1, .int (x1)), (2, ag_rf (x2))] [] h := by
  unfold fn_AL_set_0 at hyp
  have hc : ag_C1 [(0, .ref a), (1, .int (x1)), (2, ag_rf (x2))] := (ag_c1 rfl (ag_c1 rfl (ag_c1 (ag_cat_rf _) ag_c0)))
  refine ag_iload_n d_AL_set_0 rfl ?_
  refine gc_aload_n (r := (some (a))) d_AL_set_1 rfl ?_
  obtain ⟨g3, eg3, hyp⟩ := md_bd hyp
  refine gc_geti (r := (some (a))) d_AL_set_2 fr_AL_48 eg3 ?_
  obtain ⟨r4, er4, hyp⟩ := md_bd hyp
  refine ag_calls (as := [.int (x1), .int (g3)]) d_AL_set_5 ml_AL_118 gw_717 (Nat.le_of_ble_eq_true rfl) (w_Ob_checkIndex hC (d := d) (by omega) er4) (fun v4 h4 q4 => ?_)
  obtain ⟨rfl, rfl⟩ := q4
  refine ag_pop d_AL_set_8 rfl ?_
  refine gc_aload_n (r := (some (a))) d_AL_set_9 rfl ?_
  refine ag_iload_n d_AL_set_10 rfl ?_
  obtain ⟨a8, ea8, hyp⟩ := md_bd hyp
  obtain ⟨r8, er8, hyp⟩ := md_bd hyp
  refine gc_callv (r := (some (a))) (as := [.int (x1)]) d_AL_set_11 ml_AL_123 gw_723 rfl sl_AL_elementData ea8 (Nat.le_of_ble_eq_true rfl) (w_AL_elementData hC (d := d) (by omega) er8) (fun v8 h8 q8 => ?_)
  obtain ⟨rfl, rfl⟩ := q8
  refine gc_astore0_n (r := (r8.1)) d_AL_set_14 (by decide) hc ?_
  replace hc := ag_cs (i := 3) (v := ag_rf (r8.1)) hc (ag_cat_rf _)
  refine gc_aload_n (r := (some (a))) d_AL_set_15 rfl ?_
  obtain ⟨g11, eg11, hyp⟩ := md_bd hyp
  refine gc_getr (r := (some (a))) d_AL_set_16 fr_AL_9 eg11 ?_
  refine ag_iload_n d_AL_set_19 rfl ?_
  refine gc_aload_n (r := (x2)) d_AL_set_20 rfl ?_
  obtain ⟨h14, eh14, hyp⟩ := md_bd hyp
  refine gc_ast (r := (g11)) (w := (x2)) d_AL_set_21 eh14 ?_
  refine gc_aload_n (r := ((r8.1))) d_AL_set_22 rfl ?_
  cases hyp
  exact gc_aret (r := ((r8.1))) d_AL_set_23 rfl (Or.inl ⟨_, rfl⟩) ⟨rfl, rfl⟩
theorem w_AL_set {l : Launch} {G : ag_G} {d N : Nat} {C : Nat × Nat} (hC : ag_cN G = C.1 ∧ ag_cS G = C.2) (hH : 1 + 1 ≤ d) {a : Nat} {p1 : Int32} {p2 : Option Nat} {h : ag_H} {res : (Option Nat) × ag_H} (hyp : fn_AL_set N C a p1 p2 h = some res) : ag_Met gc_P l G m_AL_set d [.ref a, .int (p1), ag_rf (p2)] h (fun v h' => v = some (ag_rf res.1) ∧ h' = res.2) := by
  obtain ⟨d, rfl, hG⟩ := md_dd hH
  exact ag_met0 (by decide) rfl (ag_v1 rfl (ag_v1 rfl (ag_v1 (ag_cat_rf _) ag_v0))) (Nat.le_of_ble_eq_true rfl) (ag_dr (ag_d1 rfl (ag_d1 rfl (ag_d1 rfl ag_d0))) (w_AL_set_0 hC hG hyp))
def fn_Tk_changeLink_0 (N : Nat) (C : Nat × Nat) (a : Nat) (x1 : Int32) (x2 : Int32) (x3 : Int32) (h : ag_H) : Option ((Int32) × ag_H) := (ag_gr h (some (a)) 8 0).bind fun g2 => (ag_rc h (g2) 11).bind fun a4 => (fn_AL_get N C a4 (x1) h).bind fun r4 => if ag_ck r4.2 (r4.1) 9 = true then ((ag_gr r4.2 (some (a)) 8 0).bind fun g8 => if r4.2.1 + 1 ≤ C.1 ∧ r4.2.2.1 + 5 ≤ C.2 then ((ag_gi (ag_nw r4.2 5 (.inr (9, [.int 0, .int 0, .int 0, .int 0, .int 0]))) ((r4.1)) 9 2).bind fun g15 => (ag_gi (ag_nw r4.2 5 (.inr (9, [.int 0, .int 0, .int 0, .int 0, .int 0]))) ((r4.1)) 9 3).bind fun g17 => (ag_gi (ag_nw r4.2 5 (.inr (9, [.int 0, .int 0, .int 0, .int 0, .int 0]))) ((r4.1)) 9 4).bind fun g19 => (fn_Lk_init N C (r4.2.1) (x2) (x3) (g15) (g17) (g19) (ag_nw r4.2 5 (.inr (9, [.int 0, .int 0, .int 0, .int 0, .int 0])))).bind fun r20 => (ag_rc r20.2 (g8) 11).bind fun a21 => (fn_AL_set N C a21 (x1) (some (r4.2.1)) r20.2).bind fun r21 => some (0, r21.2)) else none) else none
def fn_Tk_changeLink (N : Nat) (C : Nat × Nat) (a : Nat) (p1 : Int32) (p2 : Int32) (p3 : Int32) (h : ag_H) : Option ((Int32) × ag_H) := fn_Tk_changeLink_0 N C a p1 p2 p3 h
theorem w_Tk_changeLink_0 {l : Launch} {G : ag_G} {d N : Nat} {C : Nat × Nat} {a : Nat} (hC : ag_cN G = C.1 ∧ ag_cS G = C.2) (hH : 2 ≤ d) {x1 : Int32} {x2 : Int32} {x3 : Int32} {h : ag_H} {res : (Int32) × ag_H} (hyp : fn_Tk_changeLink_0 N C a x1 x2 x3 h = some res) : ag_ev gc_P l G m_Tk_changeLink (d + 1) (ag_ret gc_P G (fun v h' => v = none ∧ h' = res.2)) 0 [(0, .ref a), (1, .int (x1)), (2, .int (x2)), (3, .int (x3))] [] h := by
  unfold fn_Tk_changeLink_0 at hyp
  have hc : ag_C1 [(0, .ref a), (1, .int (x1)), (2, .int (x2)), (3, .int (x3))] := (ag_c1 rfl (ag_c1 rfl (ag_c1 rfl (ag_c1 rfl ag_c0))))
  refine gc_aload_n (r := (some (a))) d_Tk_changeLink_0 rfl ?_
  obtain ⟨g2, eg2, hyp⟩ := md_bd hyp
  refine gc_getr (r := (some (a))) d_Tk_changeLink_1 fr_Tk_10 eg2 ?_
  refine ag_iload_n d_Tk_changeLink_4 rfl ?_
  obtain ⟨a4, ea4, hyp⟩ := md_bd hyp
  obtain ⟨r4, er4, hyp⟩ := md_bd hyp
  refine gc_callf (r := (g2)) (as := [.int (x1)]) d_Tk_changeLink_5 il_Tk_23 ea4 (Nat.le_of_ble_eq_true rfl) (w_AL_get hC (d := d) (by omega) er4) (fun v4 h4 q4 => ?_)
  obtain ⟨rfl, rfl⟩ := q4
  obtain ⟨q5, hyp⟩ := md_ifs hyp
  refine gc_cast (r := (r4.1)) d_Tk_changeLink_10 gw_736 rfl q5 ?_
  refine gc_astore0 (r := (r4.1)) d_Tk_changeLink_13 (by decide) hc ?_
  replace hc := ag_cs (i := 4) (v := ag_rf (r4.1)) hc (ag_cat_rf _)
  refine gc_aload_n (r := (some (a))) d_Tk_changeLink_15 rfl ?_
  obtain ⟨g8, eg8, hyp⟩ := md_bd hyp
  refine gc_getr (r := (some (a))) d_Tk_changeLink_16 fr_Tk_10 eg8 ?_
  refine ag_iload_n d_Tk_changeLink_19 rfl ?_
  obtain ⟨q10, hyp⟩ := md_ifs hyp
  refine gc_new (ci := 9) hC d_Tk_changeLink_20 gw_736 gw_644 gw_24 rfl nf_Lk q10 ?_
  refine ag_dup d_Tk_changeLink_23 rfl ?_
  refine ag_iload_n d_Tk_changeLink_24 rfl ?_
  refine ag_iload_n d_Tk_changeLink_25 rfl ?_
  refine gc_aload (r := ((r4.1))) d_Tk_changeLink_26 rfl ?_
  obtain ⟨g15, eg15, hyp⟩ := md_bd hyp
  refine gc_geti (r := ((r4.1))) d_Tk_changeLink_28 fr_Tk_47 eg15 ?_
  refine gc_aload (r := ((r4.1))) d_Tk_changeLink_31 rfl ?_
  obtain ⟨g17, eg17, hyp⟩ := md_bd hyp
  refine gc_geti (r := ((r4.1))) d_Tk_changeLink_33 fr_Tk_50 eg17 ?_
  refine gc_aload (r := ((r4.1))) d_Tk_changeLink_36 rfl ?_
  obtain ⟨g19, eg19, hyp⟩ := md_bd hyp
  refine gc_geti (r := ((r4.1))) d_Tk_changeLink_38 fr_Tk_53 eg19 ?_
  obtain ⟨r20, er20, hyp⟩ := md_bd hyp
  refine ag_calli (a := r4.2.1) (as := [.int (x2), .int (x3), .int (g15), .int (g17), .int (g19)]) d_Tk_changeLink_41 ml_Tk_56 gw_646 rfl rfl (ag_w9 (ag_v1 rfl (ag_v1 rfl (ag_v1 (ag_cat_rf _) ag_v0))) (Nat.le_of_ble_eq_true rfl)) (w_Lk_init hC (d := d) (by omega) er20) (fun v20 h20 q20 => ?_)
  obtain ⟨rfl, rfl⟩ := q20
  obtain ⟨a21, ea21, hyp⟩ := md_bd hyp
  obtain ⟨r21, er21, hyp⟩ := md_bd hyp
  refine gc_callf (r := (g8)) (as := [.int (x1), .ref (r4.2.1)]) d_Tk_changeLink_44 il_Tk_59 ea21 (Nat.le_of_ble_eq_true rfl) (w_AL_set hC (d := d) (by omega) er21) (fun v21 h21 q21 => ?_)
  obtain ⟨rfl, rfl⟩ := q21
  refine ag_pop d_Tk_changeLink_49 (ag_cat_rf _) ?_
  cases hyp
  exact ag_vret d_Tk_changeLink_50 rfl ⟨rfl, rfl⟩
theorem w_Tk_changeLink {l : Launch} {G : ag_G} {d N : Nat} {C : Nat × Nat} (hC : ag_cN G = C.1 ∧ ag_cS G = C.2) (hH : 2 + 1 ≤ d) {a : Nat} {p1 : Int32} {p2 : Int32} {p3 : Int32} {h : ag_H} {res : (Int32) × ag_H} (hyp : fn_Tk_changeLink N C a p1 p2 p3 h = some res) : ag_Met gc_P l G m_Tk_changeLink d [.ref a, .int (p1), .int (p2), .int (p3)] h (fun v h' => v = none ∧ h' = res.2) := by
  obtain ⟨d, rfl, hG⟩ := md_dd hH
  exact ag_met (by decide) rfl (Nat.le_of_ble_eq_true rfl) (ag_dr (ag_d1 rfl (ag_d1 rfl (ag_d1 rfl (ag_d1 rfl ag_d0)))) (w_Tk_changeLink_0 hC hG hyp))
def fn_Tk_swapBlocks_0 (N : Nat) (C : Nat × Nat) (a : Nat) (x1 : Int32) (x2 : Int32) (h : ag_H) : Option ((Int32) × ag_H) := (ag_gr h (some (a)) 8 0).bind fun g2 => (ag_rc h (g2) 11).bind fun a4 => (fn_AL_get N C a4 (x1) h).bind fun r4 => if ag_ck r4.2 (r4.1) 9 = true then ((ag_gi r4.2 (r4.1) 9 0).bind fun g6 => (ag_gr r4.2 (some (a)) 8 0).bind fun g11 => (ag_rc r4.2 (g11) 11).bind fun a13 => (fn_AL_get N C a13 (x2) r4.2).bind fun r13 => if ag_ck r13.2 (r13.1) 9 = true then ((ag_gi r13.2 (r13.1) 9 0).bind fun g15 => (ag_gr r13.2 (some (a)) 8 0).bind fun g17 => (ag_rc r13.2 (g17) 11).bind fun a19 => (fn_AL_get N C a19 (x1) r13.2).bind fun r19 => if ag_ck r19.2 (r19.1) 9 = true then ((ag_gi r19.2 (r19.1) 9 1).bind fun g21 => (ag_rc r19.2 (some (a)) 8).bind fun a22 => (fn_Tk_changeLink N C a22 (x1) (g15) (g21) r19.2).bind fun r22 => (ag_gr r22.2 (some (a)) 8 0).bind fun g27 => (ag_rc r22.2 (g27) 11).bind fun a29 => (fn_AL_get N C a29 (x2) r22.2).bind fun r29 => if ag_ck r29.2 (r29.1) 9 = true then ((ag_gi r29.2 (r29.1) 9 1).bind fun g31 => (ag_rc r29.2 (some (a)) 8).bind fun a32 => (fn_Tk_changeLink N C a32 (x2) (g6) (g31) r29.2).bind fun r32 => some (0, r32.2)) else none) else none) else none) else none
def fn_Tk_swapBlocks (N : Nat) (C : Nat × Nat) (a : Nat) (p1 : Int32) (p2 : Int32) (h : ag_H) : Option ((Int32) × ag_H) := fn_Tk_swapBlocks_0 N C a p1 p2 h
theorem w_Tk_swapBlocks_0 {l : Launch} {G : ag_G} {d N : Nat} {C : Nat × Nat} {a : Nat} (hC : ag_cN G = C.1 ∧ ag_cS G = C.2) (hH : 3 ≤ d) {x1 : Int32} {x2 : Int32} {h : ag_H} {res : (Int32) × ag_H} (hyp : fn_Tk_swapBlocks_0 N C a x1 x2 h = some res) : ag_ev gc_P l G m_Tk_swapBlocks (d + 1) (ag_ret gc_P G (fun v h' => v = none ∧ h' = res.2)) 0 [(0, .ref a), (1, .int (x1)), (2, .int (x2))] [] h := by
  unfold fn_Tk_swapBlocks_0 at hyp
  have hc : ag_C1 [(0, .ref a), (1, .int (x1)), (2, .int (x2))] := (ag_c1 rfl (ag_c1 rfl (ag_c1 rfl ag_c0)))
  refine gc_aload_n (r := (some (a))) d_Tk_swapBlocks_0 rfl ?_
  obtain ⟨g2, eg2, hyp⟩ := md_bd hyp
  refine gc_getr (r := (some (a))) d_Tk_swapBlocks_1 fr_Tk_10 eg2 ?_
  refine ag_iload_n d_Tk_swapBlocks_4 rfl ?_
  obtain ⟨a4, ea4, hyp⟩ := md_bd hyp
  obtain ⟨r4, er4, hyp⟩ := md_bd hyp
  refine gc_callf (r := (g2)) (as := [.int (x1)]) d_Tk_swapBlocks_5 il_Tk_23 ea4 (Nat.le_of_ble_eq_true rfl) (w_AL_get hC (d := d) (by omega) er4) (fun v4 h4 q4 => ?_)
  obtain ⟨rfl, rfl⟩ := q4
  obtain ⟨q5, hyp⟩ := md_ifs hyp
  refine gc_cast (r := (r4.1)) d_Tk_swapBlocks_10 gw_736 rfl q5 ?_
  obtain ⟨g6, eg6, hyp⟩ := md_bd hyp
  refine gc_geti (r := (r4.1)) d_Tk_swapBlocks_13 fr_Tk_63 eg6 ?_
  refine gc_istore_n d_Tk_swapBlocks_16 (by decide) hc ?_
  replace hc := ag_cs (i := 3) (v := .int (g6)) hc rfl
  refine gc_aload_n (r := (some (a))) d_Tk_swapBlocks_17 rfl ?_
  refine ag_iload_n d_Tk_swapBlocks_18 rfl ?_
  refine gc_aload_n (r := (some (a))) d_Tk_swapBlocks_19 rfl ?_
  obtain ⟨g11, eg11, hyp⟩ := md_bd hyp
  refine gc_getr (r := (some (a))) d_Tk_swapBlocks_20 fr_Tk_10 eg11 ?_
  refine ag_iload_n d_Tk_swapBlocks_23 rfl ?_
  obtain ⟨a13, ea13, hyp⟩ := md_bd hyp
  obtain ⟨r13, er13, hyp⟩ := md_bd hyp
  refine gc_callf (r := (g11)) (as := [.int (x2)]) d_Tk_swapBlocks_24 il_Tk_23 ea13 (Nat.le_of_ble_eq_true rfl) (w_AL_get hC (d := d) (by omega) er13) (fun v13 h13 q13 => ?_)
  obtain ⟨rfl, rfl⟩ := q13
  obtain ⟨q14, hyp⟩ := md_ifs hyp
  refine gc_cast (r := (r13.1)) d_Tk_swapBlocks_29 gw_736 rfl q14 ?_
  obtain ⟨g15, eg15, hyp⟩ := md_bd hyp
  refine gc_geti (r := (r13.1)) d_Tk_swapBlocks_32 fr_Tk_63 eg15 ?_
  refine gc_aload_n (r := (some (a))) d_Tk_swapBlocks_35 rfl ?_
  obtain ⟨g17, eg17, hyp⟩ := md_bd hyp
  refine gc_getr (r := (some (a))) d_Tk_swapBlocks_36 fr_Tk_10 eg17 ?_
  refine ag_iload_n d_Tk_swapBlocks_39 rfl ?_
  obtain ⟨a19, ea19, hyp⟩ := md_bd hyp
  obtain ⟨r19, er19, hyp⟩ := md_bd hyp
  refine gc_callf (r := (g17)) (as := [.int (x1)]) d_Tk_swapBlocks_40 il_Tk_23 ea19 (Nat.le_of_ble_eq_true rfl) (w_AL_get hC (d := d) (by omega) er19) (fun v19 h19 q19 => ?_)
  obtain ⟨rfl, rfl⟩ := q19
  obtain ⟨q20, hyp⟩ := md_ifs hyp
  refine gc_cast (r := (r19.1)) d_Tk_swapBlocks_45 gw_736 rfl q20 ?_
  obtain ⟨g21, eg21, hyp⟩ := md_bd hyp
  refine gc_geti (r := (r19.1)) d_Tk_swapBlocks_48 fr_Tk_66 eg21 ?_
  obtain ⟨a22, ea22, hyp⟩ := md_bd hyp
  obtain ⟨r22, er22, hyp⟩ := md_bd hyp
  refine gc_callv (r := (some (a))) (as := [.int (x1), .int (g15), .int (g21)]) d_Tk_swapBlocks_51 ml_Tk_69 gw_779 rfl sl_Tk_changeLink ea22 (Nat.le_of_ble_eq_true rfl) (w_Tk_changeLink hC (d := d) (by omega) er22) (fun v22 h22 q22 => ?_)
  obtain ⟨rfl, rfl⟩ := q22
  refine gc_aload_n (r := (some (a))) d_Tk_swapBlocks_54 rfl ?_
  refine ag_iload_n d_Tk_swapBlocks_55 rfl ?_
  refine ag_iload_n d_Tk_swapBlocks_56 rfl ?_
  refine gc_aload_n (r := (some (a))) d_Tk_swapBlocks_57 rfl ?_
  obtain ⟨g27, eg27, hyp⟩ := md_bd hyp
  refine gc_getr (r := (some (a))) d_Tk_swapBlocks_58 fr_Tk_10 eg27 ?_
  refine ag_iload_n d_Tk_swapBlocks_61 rfl ?_
  obtain ⟨a29, ea29, hyp⟩ := md_bd hyp
  obtain ⟨r29, er29, hyp⟩ := md_bd hyp
  refine gc_callf (r := (g27)) (as := [.int (x2)]) d_Tk_swapBlocks_62 il_Tk_23 ea29 (Nat.le_of_ble_eq_true rfl) (w_AL_get hC (d := d) (by omega) er29) (fun v29 h29 q29 => ?_)
  obtain ⟨rfl, rfl⟩ := q29
  obtain ⟨q30, hyp⟩ := md_ifs hyp
  refine gc_cast (r := (r29.1)) d_Tk_swapBlocks_67 gw_736 rfl q30 ?_
  obtain ⟨g31, eg31, hyp⟩ := md_bd hyp
  refine gc_geti (r := (r29.1)) d_Tk_swapBlocks_70 fr_Tk_66 eg31 ?_
  obtain ⟨a32, ea32, hyp⟩ := md_bd hyp
  obtain ⟨r32, er32, hyp⟩ := md_bd hyp
  refine gc_callv (r := (some (a))) (as := [.int (x2), .int (g6), .int (g31)]) d_Tk_swapBlocks_73 ml_Tk_69 gw_779 rfl sl_Tk_changeLink ea32 (Nat.le_of_ble_eq_true rfl) (w_Tk_changeLink hC (d := d) (by omega) er32) (fun v32 h32 q32 => ?_)
  obtain ⟨rfl, rfl⟩ := q32
  cases hyp
  exact ag_vret d_Tk_swapBlocks_76 rfl ⟨rfl, rfl⟩
theorem w_Tk_swapBlocks {l : Launch} {G : ag_G} {d N : Nat} {C : Nat × Nat} (hC : ag_cN G = C.1 ∧ ag_cS G = C.2) (hH : 3 + 1 ≤ d) {a : Nat} {p1 : Int32} {p2 : Int32} {h : ag_H} {res : (Int32) × ag_H} (hyp : fn_Tk_swapBlocks N C a p1 p2 h = some res) : ag_Met gc_P l G m_Tk_swapBlocks d [.ref a, .int (p1), .int (p2)] h (fun v h' => v = none ∧ h' = res.2) := by
  obtain ⟨d, rfl, hG⟩ := md_dd hH
  exact ag_met (by decide) rfl (Nat.le_of_ble_eq_true rfl) (ag_dr (ag_d1 rfl (ag_d1 rfl (ag_d1 rfl ag_d0))) (w_Tk_swapBlocks_0 hC hG hyp))
def fn_Tk_swapLinks_0 (N : Nat) (C : Nat × Nat) (a : Nat) (x1 : Int32) (x2 : Int32) (h : ag_H) : Option ((Int32) × ag_H) := (ag_gr h (some (a)) 8 0).bind fun g2 => (ag_rc h (g2) 11).bind fun a4 => (fn_AL_get N C a4 (x1) h).bind fun r4 => if ag_ck r4.2 (r4.1) 9 = true then ((ag_gr r4.2 (some (a)) 8 0).bind fun g8 => (ag_gr r4.2 (some (a)) 8 0).bind fun g11 => (ag_rc r4.2 (g11) 11).bind fun a13 => (fn_AL_get N C a13 (x2) r4.2).bind fun r13 => if ag_ck r13.2 (r13.1) 9 = true then ((ag_rc r13.2 (g8) 11).bind fun a15 => (fn_AL_set N C a15 (x1) (r13.1) r13.2).bind fun r15 => (ag_gr r15.2 (some (a)) 8 0).bind fun g18 => (ag_rc r15.2 (g18) 11).bind fun a21 => (fn_AL_set N C a21 (x2) ((r4.1)) r15.2).bind fun r21 => some (0, r21.2)) else none) else none
def fn_Tk_swapLinks (N : Nat) (C : Nat × Nat) (a : Nat) (p1 : Int32) (p2 : Int32) (h : ag_H) : Option ((Int32) × ag_H) := fn_Tk_swapLinks_0 N C a p1 p2 h
theorem w_Tk_swapLinks_0 {l : Launch} {G : ag_G} {d N : Nat} {C : Nat × Nat} {a : Nat} (hC : ag_cN G = C.1 ∧ ag_cS G = C.2) (hH : 2 ≤ d) {x1 : Int32} {x2 : Int32} {h : ag_H} {res : (Int32) × ag_H} (hyp : fn_Tk_swapLinks_0 N C a x1 x2 h = some res) : ag_ev gc_P l G m_Tk_swapLinks (d + 1) (ag_ret gc_P G (fun v h' => v = none ∧ h' = res.2)) 0 [(0, .ref a), (1, .int (x1)), (2, .int (x2))] [] h := by
  unfold fn_Tk_swapLinks_0 at hyp
  have hc : ag_C1 [(0, .ref a), (1, .int (x1)), (2, .int (x2))] := (ag_c1 rfl (ag_c1 rfl (ag_c1 rfl ag_c0)))
  refine gc_aload_n (r := (some (a))) d_Tk_swapLinks_0 rfl ?_
  obtain ⟨g2, eg2, hyp⟩ := md_bd hyp
  refine gc_getr (r := (some (a))) d_Tk_swapLinks_1 fr_Tk_10 eg2 ?_
  refine ag_iload_n d_Tk_swapLinks_4 rfl ?_
  obtain ⟨a4, ea4, hyp⟩ := md_bd hyp
  obtain ⟨r4, er4, hyp⟩ := md_bd hyp
  refine gc_callf (r := (g2)) (as := [.int (x1)]) d_Tk_swapLinks_5 il_Tk_23 ea4 (Nat.le_of_ble_eq_true rfl) (w_AL_get hC (d := d) (by omega) er4) (fun v4 h4 q4 => ?_)
  obtain ⟨rfl, rfl⟩ := q4
  obtain ⟨q5, hyp⟩ := md_ifs hyp
  refine gc_cast (r := (r4.1)) d_Tk_swapLinks_10 gw_736 rfl q5 ?_
  refine gc_astore0_n (r := (r4.1)) d_Tk_swapLinks_13 (by decide) hc ?_
  replace hc := ag_cs (i := 3) (v := ag_rf (r4.1)) hc (ag_cat_rf _)
  refine gc_aload_n (r := (some (a))) d_Tk_swapLinks_14 rfl ?_
  obtain ⟨g8, eg8, hyp⟩ := md_bd hyp
  refine gc_getr (r := (some (a))) d_Tk_swapLinks_15 fr_Tk_10 eg8 ?_
  refine ag_iload_n d_Tk_swapLinks_18 rfl ?_
  refine gc_aload_n (r := (some (a))) d_Tk_swapLinks_19 rfl ?_
  obtain ⟨g11, eg11, hyp⟩ := md_bd hyp
  refine gc_getr (r := (some (a))) d_Tk_swapLinks_20 fr_Tk_10 eg11 ?_
  refine ag_iload_n d_Tk_swapLinks_23 rfl ?_
  obtain ⟨a13, ea13, hyp⟩ := md_bd hyp
  obtain ⟨r13, er13, hyp⟩ := md_bd hyp
  refine gc_callf (r := (g11)) (as := [.int (x2)]) d_Tk_swapLinks_24 il_Tk_23 ea13 (ag_w9 (ag_v1 rfl (ag_v1 (ag_cat_rf _) ag_v0)) (Nat.le_of_ble_eq_true rfl)) (w_AL_get hC (d := d) (by omega) er13) (fun v13 h13 q13 => ?_)
  obtain ⟨rfl, rfl⟩ := q13
  obtain ⟨q14, hyp⟩ := md_ifs hyp
  refine gc_cast (r := (r13.1)) d_Tk_swapLinks_29 gw_736 rfl q14 ?_
  obtain ⟨a15, ea15, hyp⟩ := md_bd hyp
  obtain ⟨r15, er15, hyp⟩ := md_bd hyp
  refine gc_callf (r := (g8)) (as := [.int (x1), ag_rf (r13.1)]) d_Tk_swapLinks_32 il_Tk_59 ea15 (Nat.le_of_ble_eq_true rfl) (w_AL_set hC (d := d) (by omega) er15) (fun v15 h15 q15 => ?_)
  obtain ⟨rfl, rfl⟩ := q15
  refine ag_pop d_Tk_swapLinks_37 (ag_cat_rf _) ?_
  refine gc_aload_n (r := (some (a))) d_Tk_swapLinks_38 rfl ?_
  obtain ⟨g18, eg18, hyp⟩ := md_bd hyp
  refine gc_getr (r := (some (a))) d_Tk_swapLinks_39 fr_Tk_10 eg18 ?_
  refine ag_iload_n d_Tk_swapLinks_42 rfl ?_
  refine gc_aload_n (r := ((r4.1))) d_Tk_swapLinks_43 rfl ?_
  obtain ⟨a21, ea21, hyp⟩ := md_bd hyp
  obtain ⟨r21, er21, hyp⟩ := md_bd hyp
  refine gc_callf (r := (g18)) (as := [.int (x2), ag_rf ((r4.1))]) d_Tk_swapLinks_44 il_Tk_59 ea21 (Nat.le_of_ble_eq_true rfl) (w_AL_set hC (d := d) (by omega) er21) (fun v21 h21 q21 => ?_)
  obtain ⟨rfl, rfl⟩ := q21
  refine ag_pop d_Tk_swapLinks_49 (ag_cat_rf _) ?_
  cases hyp
  exact ag_vret d_Tk_swapLinks_50 rfl ⟨rfl, rfl⟩
theorem w_Tk_swapLinks {l : Launch} {G : ag_G} {d N : Nat} {C : Nat × Nat} (hC : ag_cN G = C.1 ∧ ag_cS G = C.2) (hH : 2 + 1 ≤ d) {a : Nat} {p1 : Int32} {p2 : Int32} {h : ag_H} {res : (Int32) × ag_H} (hyp : fn_Tk_swapLinks N C a p1 p2 h = some res) : ag_Met gc_P l G m_Tk_swapLinks d [.ref a, .int (p1), .int (p2)] h (fun v h' => v = none ∧ h' = res.2) := by
  obtain ⟨d, rfl, hG⟩ := md_dd hH
  exact ag_met (by decide) rfl (Nat.le_of_ble_eq_true rfl) (ag_dr (ag_d1 rfl (ag_d1 rfl (ag_d1 rfl ag_d0))) (w_Tk_swapLinks_0 hC hG hyp))
def fn_Tk_signAnew_0 (N : Nat) (C : Nat × Nat) (a : Nat) (x1 : Int32) (h : ag_H) : Option ((Int32) × ag_H) := (ag_gr h (some (a)) 8 0).bind fun g2 => (ag_rc h (g2) 11).bind fun a4 => (fn_AL_get N C a4 (x1) h).bind fun r4 => if ag_ck r4.2 (r4.1) 9 = true then ((ag_gr r4.2 (some (a)) 8 0).bind fun g8 => if r4.2.1 + 1 ≤ C.1 ∧ r4.2.2.1 + 5 ≤ C.2 then ((ag_gi (ag_nw r4.2 5 (.inr (9, [.int 0, .int 0, .int 0, .int 0, .int 0]))) ((r4.1)) 9 0).bind fun g13 => (ag_gi (ag_nw r4.2 5 (.inr (9, [.int 0, .int 0, .int 0, .int 0, .int 0]))) ((r4.1)) 9 1).bind fun g15 => (ag_gi (ag_nw r4.2 5 (.inr (9, [.int 0, .int 0, .int 0, .int 0, .int 0]))) (some (a)) 8 2).bind fun g17 => (ag_gi (ag_nw r4.2 5 (.inr (9, [.int 0, .int 0, .int 0, .int 0, .int 0]))) ((r4.1)) 9 0).bind fun g19 => (ag_gi (ag_nw r4.2 5 (.inr (9, [.int 0, .int 0, .int 0, .int 0, .int 0]))) ((r4.1)) 9 1).bind fun g21 => (fn_Lk_init N C (r4.2.1) (g13) (g15) (g17) (g19) (g21) (ag_nw r4.2 5 (.inr (9, [.int 0, .int 0, .int 0, .int 0, .int 0])))).bind fun r22 => (ag_rc r22.2 (g8) 11).bind fun a23 => (fn_AL_set N C a23 (x1) (some (r4.2.1)) r22.2).bind fun r23 => some (0, r23.2)) else none) else none
def fn_Tk_signAnew (N : Nat) (C : Nat × Nat) (a : Nat) (p1 : Int32) (h : ag_H) : Option ((Int32) × ag_H) := fn_Tk_signAnew_0 N C a p1 h
theorem w_Tk_signAnew_0 {l : Launch} {G : ag_G} {d N : Nat} {C : Nat × Nat} {a : Nat} (hC : ag_cN G = C.1 ∧ ag_cS G = C.2) (hH : 2 ≤ d) {x1 : Int32} {h : ag_H} {res : (Int32) × ag_H} (hyp : fn_Tk_signAnew_0 N C a x1 h = some res) : ag_ev gc_P l G m_Tk_signAnew (d + 1) (ag_ret gc_P G (fun v h' => v = none ∧ h' = res.2)) 0 [(0, .ref a), (1, .int (x1))] [] h := by
  unfold fn_Tk_signAnew_0 at hyp
  have hc : ag_C1 [(0, .ref a), (1, .int (x1))] := (ag_c1 rfl (ag_c1 rfl ag_c0))
  refine gc_aload_n (r := (some (a))) d_Tk_signAnew_0 rfl ?_
  obtain ⟨g2, eg2, hyp⟩ := md_bd hyp
  refine gc_getr (r := (some (a))) d_Tk_signAnew_1 fr_Tk_10 eg2 ?_
  refine ag_iload_n d_Tk_signAnew_4 rfl ?_
  obtain ⟨a4, ea4, hyp⟩ := md_bd hyp
  obtain ⟨r4, er4, hyp⟩ := md_bd hyp
  refine gc_callf (r := (g2)) (as := [.int (x1)]) d_Tk_signAnew_5 il_Tk_23 ea4 (Nat.le_of_ble_eq_true rfl) (w_AL_get hC (d := d) (by omega) er4) (fun v4 h4 q4 => ?_)
  obtain ⟨rfl, rfl⟩ := q4
  obtain ⟨q5, hyp⟩ := md_ifs hyp
  refine gc_cast (r := (r4.1)) d_Tk_signAnew_10 gw_736 rfl q5 ?_
  refine gc_astore0_n (r := (r4.1)) d_Tk_signAnew_13 (by decide) hc ?_
  replace hc := ag_cs (i := 2) (v := ag_rf (r4.1)) hc (ag_cat_rf _)
  refine gc_aload_n (r := (some (a))) d_Tk_signAnew_14 rfl ?_
  obtain ⟨g8, eg8, hyp⟩ := md_bd hyp
  refine gc_getr (r := (some (a))) d_Tk_signAnew_15 fr_Tk_10 eg8 ?_
  refine ag_iload_n d_Tk_signAnew_18 rfl ?_
  obtain ⟨q10, hyp⟩ := md_ifs hyp
  refine gc_new (ci := 9) hC d_Tk_signAnew_19 gw_736 gw_644 gw_24 rfl nf_Lk q10 ?_
  refine ag_dup d_Tk_signAnew_22 rfl ?_
  refine gc_aload_n (r := ((r4.1))) d_Tk_signAnew_23 rfl ?_
  obtain ⟨g13, eg13, hyp⟩ := md_bd hyp
  refine gc_geti (r := ((r4.1))) d_Tk_signAnew_24 fr_Tk_63 eg13 ?_
  refine gc_aload_n (r := ((r4.1))) d_Tk_signAnew_27 rfl ?_
  obtain ⟨g15, eg15, hyp⟩ := md_bd hyp
  refine gc_geti (r := ((r4.1))) d_Tk_signAnew_28 fr_Tk_66 eg15 ?_
  refine gc_aload_n (r := (some (a))) d_Tk_signAnew_31 rfl ?_
  obtain ⟨g17, eg17, hyp⟩ := md_bd hyp
  refine gc_geti (r := (some (a))) d_Tk_signAnew_32 fr_Tk_37 eg17 ?_
  refine gc_aload_n (r := ((r4.1))) d_Tk_signAnew_35 rfl ?_
  obtain ⟨g19, eg19, hyp⟩ := md_bd hyp
  refine gc_geti (r := ((r4.1))) d_Tk_signAnew_36 fr_Tk_63 eg19 ?_
  refine gc_aload_n (r := ((r4.1))) d_Tk_signAnew_39 rfl ?_
  obtain ⟨g21, eg21, hyp⟩ := md_bd hyp
  refine gc_geti (r := ((r4.1))) d_Tk_signAnew_40 fr_Tk_66 eg21 ?_
  obtain ⟨r22, er22, hyp⟩ := md_bd hyp
  refine ag_calli (a := r4.2.1) (as := [.int (g13), .int (g15), .int (g17), .int (g19), .int (g21)]) d_Tk_signAnew_43 ml_Tk_56 gw_646 rfl rfl (ag_w9 (ag_v1 rfl (ag_v1 rfl (ag_v1 (ag_cat_rf _) ag_v0))) (Nat.le_of_ble_eq_true rfl)) (w_Lk_init hC (d := d) (by omega) er22) (fun v22 h22 q22 => ?_)
  obtain ⟨rfl, rfl⟩ := q22
  obtain ⟨a23, ea23, hyp⟩ := md_bd hyp
  obtain ⟨r23, er23, hyp⟩ := md_bd hyp
  refine gc_callf (r := (g8)) (as := [.int (x1), .ref (r4.2.1)]) d_Tk_signAnew_46 il_Tk_59 ea23 (Nat.le_of_ble_eq_true rfl) (w_AL_set hC (d := d) (by omega) er23) (fun v23 h23 q23 => ?_)
  obtain ⟨rfl, rfl⟩ := q23
  refine ag_pop d_Tk_signAnew_51 (ag_cat_rf _) ?_
  cases hyp
  exact ag_vret d_Tk_signAnew_52 rfl ⟨rfl, rfl⟩
theorem w_Tk_signAnew {l : Launch} {G : ag_G} {d N : Nat} {C : Nat × Nat} (hC : ag_cN G = C.1 ∧ ag_cS G = C.2) (hH : 2 + 1 ≤ d) {a : Nat} {p1 : Int32} {h : ag_H} {res : (Int32) × ag_H} (hyp : fn_Tk_signAnew N C a p1 h = some res) : ag_Met gc_P l G m_Tk_signAnew d [.ref a, .int (p1)] h (fun v h' => v = none ∧ h' = res.2) := by
  obtain ⟨d, rfl, hG⟩ := md_dd hH
  exact ag_met (by decide) rfl (Nat.le_of_ble_eq_true rfl) (ag_dr (ag_d1 rfl (ag_d1 rfl ag_d0)) (w_Tk_signAnew_0 hC hG hyp))
def fn_GC_tamper_39 (N : Nat) (C : Nat × Nat) (a : Nat) (h : ag_H) : Option ((Int32 ⊕ Nat) × ag_H) := if h.1 + 1 ≤ C.1 ∧ h.2.1 + 6 ≤ C.2 then (some (.inr h.1, ag_nw h 6 (.inr (14, [])))) else none
def fn_GC_tamper_90 (N : Nat) (C : Nat × Nat) (a : Nat) (h : ag_H) : Option ((Int32 ⊕ Nat) × ag_H) := if h.1 + 1 ≤ C.1 ∧ h.2.1 + 6 ≤ C.2 then (some (.inr h.1, ag_nw h 6 (.inr (13, [])))) else none
def fn_GC_tamper_304 (N : Nat) (C : Nat × Nat) (a : Nat) (x6 : Option Nat) (h : ag_H) : Option ((Int32 ⊕ Nat) × ag_H) := (ag_rc h (some (a)) 0).bind fun a3 => (fn_GC_keep N C a3 (x6) h).bind fun r3 => some (.inl (r3.1), r3.2)
def fn_GC_tamper_98 (N : Nat) (C : Nat × Nat) (a : Nat) (x2 : Int32) (x3 : Int32) (x4 : Int32) (x5 : Option Nat) (h : ag_H) : Option ((Int32 ⊕ Nat) × ag_H) := (ag_rc h (x5) 8).bind fun a2 => (fn_Tk_copy N C a2  h).bind fun r2 => if (x2) = (0 : Int32) then ((ag_gr r2.2 ((r2.1)) 8 0).bind fun g67 => (ag_rc r2.2 (g67) 11).bind fun a68 => (fn_AL_size N C a68  r2.2).bind fun r68 => (ag_rc r68.2 ((r2.1)) 8).bind fun a71 => (fn_Tk_cutTo N C a71 ((r68.1) - (Int32.ofInt 1)) r68.2).bind fun r71 => fn_GC_tamper_304 N C a ((r2.1)) r71.2) else (if (x2) = (1 : Int32) then ((ag_rc r2.2 ((r2.1)) 8).bind fun a63 => (fn_Tk_swapBlocks N C a63 (x3) (x4) r2.2).bind fun r63 => fn_GC_tamper_304 N C a ((r2.1)) r63.2) else (if (x2) = (2 : Int32) then ((ag_rc r2.2 ((r2.1)) 8).bind fun a58 => (fn_Tk_swapLinks N C a58 (x3) (x4) r2.2).bind fun r58 => fn_GC_tamper_304 N C a ((r2.1)) r58.2) else (if (x2) = (3 : Int32) then ((ag_gr r2.2 (some (a)) 0 4).bind fun g45 => (ag_rc r2.2 (g45) 11).bind fun a46 => (fn_AL_size N C a46  r2.2).bind fun r46 => (ag_gr r46.2 ((r2.1)) 8 0).bind fun g48 => (ag_rc r46.2 (g48) 11).bind fun a50 => (fn_AL_get N C a50 (x3) r46.2).bind fun r50 => if ag_ck r50.2 (r50.1) 9 = true then ((ag_gi r50.2 (r50.1) 9 1).bind fun g52 => (ag_rc r50.2 ((r2.1)) 8).bind fun a53 => (fn_Tk_changeLink N C a53 (x3) (r46.1) (g52) r50.2).bind fun r53 => fn_GC_tamper_304 N C a ((r2.1)) r53.2) else none) else (if (x2) = (4 : Int32) then ((ag_gr r2.2 ((r2.1)) 8 0).bind fun g33 => (ag_rc r2.2 (g33) 11).bind fun a35 => (fn_AL_get N C a35 (x3) r2.2).bind fun r35 => if ag_ck r35.2 (r35.1) 9 = true then ((ag_gi r35.2 (r35.1) 9 0).bind fun g37 => (ag_rc r35.2 (some (a)) 0).bind fun a39 => (fn_GC_newKey N C a39  r35.2).bind fun r39 => (ag_rc r39.2 ((r2.1)) 8).bind fun a40 => (fn_Tk_changeLink N C a40 (x3) (g37) (r39.1) r39.2).bind fun r40 => fn_GC_tamper_304 N C a ((r2.1)) r40.2) else none) else (if (x2) = (5 : Int32) then ((ag_gr r2.2 ((r2.1)) 8 0).bind fun g12 => (ag_rc r2.2 (g12) 11).bind fun a14 => (fn_AL_get N C a14 (x3) r2.2).bind fun r14 => if ag_ck r14.2 (r14.1) 9 = true then ((ag_gi r14.2 (r14.1) 9 0).bind fun g16 => (ag_rc r14.2 (some (a)) 0).bind fun a18 => (fn_GC_newKey N C a18  r14.2).bind fun r18 => (ag_rc r18.2 ((r2.1)) 8).bind fun a19 => (fn_Tk_changeLink N C a19 (x3) (g16) (r18.1) r18.2).bind fun r19 => (ag_rc r19.2 ((r2.1)) 8).bind fun a24 => (fn_Tk_cutTo N C a24 ((x3) + (Int32.ofInt 1)) r19.2).bind fun r24 => (ag_gi r24.2 (some (a)) 0 7).bind fun g27 => (ag_rc r24.2 ((r2.1)) 8).bind fun a28 => (fn_Tk_openWith N C a28 (g27) r24.2).bind fun r28 => fn_GC_tamper_304 N C a ((r2.1)) r28.2) else none) else ((ag_rc r2.2 ((r2.1)) 8).bind fun a8 => (fn_Tk_signAnew N C a8 (x3) r2.2).bind fun r8 => fn_GC_tamper_304 N C a ((r2.1)) r8.2))))))
def fn_GC_tamper_0 (N : Nat) (C : Nat × Nat) (a : Nat) (x1 : Int32) (x2 : Int32) (x3 : Int32) (x4 : Int32) (h : ag_H) : Option ((Int32 ⊕ Nat) × ag_H) := (ag_rc h (some (a)) 0).bind fun a3 => (fn_GC_isToken N C a3 (x1) h).bind fun r3 => if (r3.1) = (0) then (fn_GC_tamper_39 N C a  r3.2) else ((ag_gr r3.2 (some (a)) 0 5).bind fun g6 => (ag_rc r3.2 (g6) 11).bind fun a8 => (fn_AL_get N C a8 (x1) r3.2).bind fun r8 => if ag_ck r8.2 (r8.1) 8 = true then ((ag_gr r8.2 (r8.1) 8 0).bind fun g10 => (ag_rc r8.2 (g10) 11).bind fun a11 => (fn_AL_size N C a11  r8.2).bind fun r11 => (fn_GC_canTamper N C (r11.1) (x2) (x3) (x4) r11.2).bind fun r15 => if (r15.1) = (0) then (fn_GC_tamper_39 N C a  r15.2) else ((ag_gr r15.2 (some (a)) 0 5).bind fun g18 => (ag_rc r15.2 (g18) 11).bind fun a20 => (fn_AL_get N C a20 (x1) r15.2).bind fun r20 => if ag_ck r20.2 (r20.1) 8 = true then ((ag_gr r20.2 (some (a)) 0 5).bind fun g24 => (ag_rc r20.2 (g24) 11).bind fun a25 => (fn_AL_size N C a25  r20.2).bind fun r25 => if ((Int8.ofInt (16)).toInt32) ≤ (r25.1) then (fn_GC_tamper_90 N C a  r25.2) else (if (x2) = ((Int8.ofInt (6)).toInt32) then ((ag_gi r25.2 ((r20.1)) 8 1).bind fun g32 => if (g32) = (0) then (fn_GC_tamper_98 N C a (x2) (x3) (x4) ((r20.1)) r25.2) else (fn_GC_tamper_90 N C a  r25.2)) else (fn_GC_tamper_98 N C a (x2) (x3) (x4) ((r20.1)) r25.2))) else none)) else none)
def fn_GC_tamper (N : Nat) (C : Nat × Nat) (a : Nat) (p1 : Int32) (p2 : Int32) (p3 : Int32) (p4 : Int32) (h : ag_H) : Option ((Int32 ⊕ Nat) × ag_H) := fn_GC_tamper_0 N C a p1 p2 p3 p4 h
theorem w_GC_tamper_39 {l : Launch} {G : ag_G} {d N : Nat} {C : Nat × Nat} {a : Nat} (hC : ag_cN G = C.1 ∧ ag_cS G = C.2) (htr : ∀ e : Env, l.admits e → e.platform.stackTraces = false) (hH : 6 ≤ d) {h : ag_H} {res : (Int32 ⊕ Nat) × ag_H} (hyp : fn_GC_tamper_39 N C a h = some res) : ag_ev gc_P l G m_GC_tamper (d + 1) (ag_out gc_P G res.1 res.2) 39 [(0, .ref a)] [] h := by
  unfold fn_GC_tamper_39 at hyp
  have hc : ag_C1 [(0, .ref a)] := (ag_c1 rfl ag_c0)
  obtain ⟨q1, hyp⟩ := md_ifs hyp
  cases hyp
  exact ag_throw (ci := 14) (names := gc_sup) d_GC_tamper_39 d_GC_tamper_42 d_GC_tamper_43 d_GC_tamper_46 rfl gw_692 gw_693 gw_25 rfl (by decide +kernel) (by decide +kernel) xw_GC_117 (by decide) htr (Nat.le_of_ble_eq_true rfl) (by rw [hC.1]; exact q1.1) (by rw [hC.2]; exact q1.2) ⟨rfl, rfl⟩
theorem w_GC_tamper_90 {l : Launch} {G : ag_G} {d N : Nat} {C : Nat × Nat} {a : Nat} (hC : ag_cN G = C.1 ∧ ag_cS G = C.2) (htr : ∀ e : Env, l.admits e → e.platform.stackTraces = false) (hH : 6 ≤ d) {h : ag_H} {res : (Int32 ⊕ Nat) × ag_H} (hyp : fn_GC_tamper_90 N C a h = some res) : ag_ev gc_P l G m_GC_tamper (d + 1) (ag_out gc_P G res.1 res.2) 90 [(0, .ref a)] [] h := by
  unfold fn_GC_tamper_90 at hyp
  have hc : ag_C1 [(0, .ref a)] := (ag_c1 rfl ag_c0)
  obtain ⟨q1, hyp⟩ := md_ifs hyp
  cases hyp
  exact ag_throw (ci := 13) (names := gc_sup) d_GC_tamper_90 d_GC_tamper_93 d_GC_tamper_94 d_GC_tamper_97 rfl gw_572 gw_573 gw_22 rfl (by decide +kernel) (by decide +kernel) xw_GC_93 (by decide) htr (Nat.le_of_ble_eq_true rfl) (by rw [hC.1]; exact q1.1) (by rw [hC.2]; exact q1.2) ⟨rfl, rfl⟩
theorem w_GC_tamper_304 {l : Launch} {G : ag_G} {d N : Nat} {C : Nat × Nat} {a : Nat} (hC : ag_cN G = C.1 ∧ ag_cS G = C.2) (htr : ∀ e : Env, l.admits e → e.platform.stackTraces = false) (hH : 6 ≤ d) {x6 : Option Nat} {h : ag_H} {res : (Int32 ⊕ Nat) × ag_H} (hyp : fn_GC_tamper_304 N C a x6 h = some res) : ag_ev gc_P l G m_GC_tamper (d + 1) (ag_out gc_P G res.1 res.2) 304 [(0, .ref a), (6, ag_rf (x6))] [] h := by
  unfold fn_GC_tamper_304 at hyp
  have hc : ag_C1 [(0, .ref a), (6, ag_rf (x6))] := (ag_c1 rfl (ag_c1 (ag_cat_rf _) ag_c0))
  refine gc_aload_n (r := (some (a))) d_GC_tamper_304 rfl ?_
  refine gc_aload (r := (x6)) d_GC_tamper_305 rfl ?_
  obtain ⟨a3, ea3, hyp⟩ := md_bd hyp
  obtain ⟨r3, er3, hyp⟩ := md_bd hyp
  refine gc_callv (r := (some (a))) (as := [ag_rf (x6)]) d_GC_tamper_307 ml_GC_139 gw_678 rfl sl_GC_keep ea3 (Nat.le_of_ble_eq_true rfl) (w_GC_keep hC (d := d) (by omega) er3) (fun v3 h3 q3 => ?_)
  obtain ⟨rfl, rfl⟩ := q3
  cases hyp
  exact ag_iret d_GC_tamper_310 rfl rfl ⟨rfl, rfl⟩
theorem w_GC_tamper_98 {l : Launch} {G : ag_G} {d N : Nat} {C : Nat × Nat} {a : Nat} (hC : ag_cN G = C.1 ∧ ag_cS G = C.2) (htr : ∀ e : Env, l.admits e → e.platform.stackTraces = false) (hH : 6 ≤ d) {x2 : Int32} {x3 : Int32} {x4 : Int32} {x5 : Option Nat} {h : ag_H} {res : (Int32 ⊕ Nat) × ag_H} (hyp : fn_GC_tamper_98 N C a x2 x3 x4 x5 h = some res) : ag_ev gc_P l G m_GC_tamper (d + 1) (ag_out gc_P G res.1 res.2) 98 [(0, .ref a), (2, .int (x2)), (3, .int (x3)), (4, .int (x4)), (5, ag_rf (x5))] [] h := by
  unfold fn_GC_tamper_98 at hyp
  have hc : ag_C1 [(0, .ref a), (2, .int (x2)), (3, .int (x3)), (4, .int (x4)), (5, ag_rf (x5))] := (ag_c1 rfl (ag_c1 rfl (ag_c1 rfl (ag_c1 rfl (ag_c1 (ag_cat_rf _) ag_c0)))))
  refine gc_aload (r := (x5)) d_GC_tamper_98 rfl ?_
  obtain ⟨a2, ea2, hyp⟩ := md_bd hyp
  obtain ⟨r2, er2, hyp⟩ := md_bd hyp
  refine gc_callv (r := (x5)) (as := []) d_GC_tamper_100 ml_GC_129 gw_727 rfl sl_Tk_copy ea2 (Nat.le_of_ble_eq_true rfl) (w_Tk_copy hC (d := d) (by omega) er2) (fun v2 h2 q2 => ?_)
  obtain ⟨rfl, rfl⟩ := q2
  refine gc_astore0 (r := (r2.1)) d_GC_tamper_103 (by decide) hc ?_
  replace hc := ag_cs (i := 6) (v := ag_rf (r2.1)) hc (ag_cat_rf _)
  refine ag_iload_n d_GC_tamper_105 rfl ?_
  by_cases q0 : (x2) = (0 : Int32)
  · replace hyp := md_ifp q0 hyp
    refine ag_tabIn d_GC_tamper_106 (by rw [q0]; decide) (by rw [q0]; decide) (by rw [q0]; rfl) rfl ?_
    refine gc_aload (r := ((r2.1))) d_GC_tamper_144 rfl ?_
    refine gc_aload (r := ((r2.1))) d_GC_tamper_146 rfl ?_
    obtain ⟨g67, eg67, hyp⟩ := md_bd hyp
    refine gc_getr (r := ((r2.1))) d_GC_tamper_148 fr_GC_126 eg67 ?_
    obtain ⟨a68, ea68, hyp⟩ := md_bd hyp
    obtain ⟨r68, er68, hyp⟩ := md_bd hyp
    refine gc_callf (r := (g67)) (as := []) d_GC_tamper_151 il_GC_85 ea68 (ag_w9 (ag_v1 (ag_cat_rf _) ag_v0) (Nat.le_of_ble_eq_true rfl)) (w_AL_size hC (d := d) (by omega) er68) (fun v68 h68 q68 => ?_)
    obtain ⟨rfl, rfl⟩ := q68
    refine ag_iconst d_GC_tamper_156 ?_
    refine ag_isub d_GC_tamper_157 ?_
    obtain ⟨a71, ea71, hyp⟩ := md_bd hyp
    obtain ⟨r71, er71, hyp⟩ := md_bd hyp
    refine gc_callv (r := ((r2.1))) (as := [.int ((r68.1) - (Int32.ofInt 1))]) d_GC_tamper_158 ml_GC_147 gw_757 rfl sl_Tk_cutTo ea71 (Nat.le_of_ble_eq_true rfl) (w_Tk_cutTo hC (d := d) (by omega) er71) (fun v71 h71 q71 => ?_)
    obtain ⟨rfl, rfl⟩ := q71
    refine ag_goto d_GC_tamper_161 rfl ?_
    exact ag_dr (ag_d1 rfl (ag_d1 rfl ag_d0)) (w_GC_tamper_304 hC htr hH hyp)
  · replace hyp := md_ifn q0 hyp
    by_cases q1 : (x2) = (1 : Int32)
    · replace hyp := md_ifp q1 hyp
      refine ag_tabIn d_GC_tamper_106 (by rw [q1]; decide) (by rw [q1]; decide) (by rw [q1]; rfl) rfl ?_
      refine gc_aload (r := ((r2.1))) d_GC_tamper_164 rfl ?_
      refine ag_iload_n d_GC_tamper_166 rfl ?_
      refine ag_iload d_GC_tamper_167 rfl ?_
      obtain ⟨a63, ea63, hyp⟩ := md_bd hyp
      obtain ⟨r63, er63, hyp⟩ := md_bd hyp
      refine gc_callv (r := ((r2.1))) (as := [.int (x3), .int (x4)]) d_GC_tamper_169 ml_GC_151 gw_775 rfl sl_Tk_swapBlocks ea63 (Nat.le_of_ble_eq_true rfl) (w_Tk_swapBlocks hC (d := d) (by omega) er63) (fun v63 h63 q63 => ?_)
      obtain ⟨rfl, rfl⟩ := q63
      refine ag_goto d_GC_tamper_172 rfl ?_
      exact ag_dr (ag_d1 rfl (ag_d1 rfl ag_d0)) (w_GC_tamper_304 hC htr hH hyp)
    · replace hyp := md_ifn q1 hyp
      by_cases q2 : (x2) = (2 : Int32)
      · replace hyp := md_ifp q2 hyp
        refine ag_tabIn d_GC_tamper_106 (by rw [q2]; decide) (by rw [q2]; decide) (by rw [q2]; rfl) rfl ?_
        refine gc_aload (r := ((r2.1))) d_GC_tamper_175 rfl ?_
        refine ag_iload_n d_GC_tamper_177 rfl ?_
        refine ag_iload d_GC_tamper_178 rfl ?_
        obtain ⟨a58, ea58, hyp⟩ := md_bd hyp
        obtain ⟨r58, er58, hyp⟩ := md_bd hyp
        refine gc_callv (r := ((r2.1))) (as := [.int (x3), .int (x4)]) d_GC_tamper_180 ml_GC_155 gw_793 rfl sl_Tk_swapLinks ea58 (Nat.le_of_ble_eq_true rfl) (w_Tk_swapLinks hC (d := d) (by omega) er58) (fun v58 h58 q58 => ?_)
        obtain ⟨rfl, rfl⟩ := q58
        refine ag_goto d_GC_tamper_183 rfl ?_
        exact ag_dr (ag_d1 rfl (ag_d1 rfl ag_d0)) (w_GC_tamper_304 hC htr hH hyp)
      · replace hyp := md_ifn q2 hyp
        by_cases q3 : (x2) = (3 : Int32)
        · replace hyp := md_ifp q3 hyp
          refine ag_tabIn d_GC_tamper_106 (by rw [q3]; decide) (by rw [q3]; decide) (by rw [q3]; rfl) rfl ?_
          refine gc_aload (r := ((r2.1))) d_GC_tamper_186 rfl ?_
          refine ag_iload_n d_GC_tamper_188 rfl ?_
          refine gc_aload_n (r := (some (a))) d_GC_tamper_189 rfl ?_
          obtain ⟨g45, eg45, hyp⟩ := md_bd hyp
          refine gc_getr (r := (some (a))) d_GC_tamper_190 fr_GC_40 eg45 ?_
          obtain ⟨a46, ea46, hyp⟩ := md_bd hyp
          obtain ⟨r46, er46, hyp⟩ := md_bd hyp
          refine gc_callf (r := (g45)) (as := []) d_GC_tamper_193 il_GC_85 ea46 (ag_w9 (ag_v1 rfl (ag_v1 (ag_cat_rf _) ag_v0)) (Nat.le_of_ble_eq_true rfl)) (w_AL_size hC (d := d) (by omega) er46) (fun v46 h46 q46 => ?_)
          obtain ⟨rfl, rfl⟩ := q46
          refine gc_aload (r := ((r2.1))) d_GC_tamper_198 rfl ?_
          obtain ⟨g48, eg48, hyp⟩ := md_bd hyp
          refine gc_getr (r := ((r2.1))) d_GC_tamper_200 fr_GC_126 eg48 ?_
          refine ag_iload_n d_GC_tamper_203 rfl ?_
          obtain ⟨a50, ea50, hyp⟩ := md_bd hyp
          obtain ⟨r50, er50, hyp⟩ := md_bd hyp
          refine gc_callf (r := (g48)) (as := [.int (x3)]) d_GC_tamper_204 il_GC_118 ea50 (ag_w9 (ag_v1 rfl (ag_v1 rfl (ag_v1 (ag_cat_rf _) ag_v0))) (Nat.le_of_ble_eq_true rfl)) (w_AL_get hC (d := d) (by omega) er50) (fun v50 h50 q50 => ?_)
          obtain ⟨rfl, rfl⟩ := q50
          obtain ⟨q51, hyp⟩ := md_ifs hyp
          refine gc_cast (r := (r50.1)) d_GC_tamper_209 gw_643 rfl q51 ?_
          obtain ⟨g52, eg52, hyp⟩ := md_bd hyp
          refine gc_geti (r := (r50.1)) d_GC_tamper_212 fr_GC_160 eg52 ?_
          obtain ⟨a53, ea53, hyp⟩ := md_bd hyp
          obtain ⟨r53, er53, hyp⟩ := md_bd hyp
          refine gc_callv (r := ((r2.1))) (as := [.int (x3), .int (r46.1), .int (g52)]) d_GC_tamper_215 ml_GC_163 gw_779 rfl sl_Tk_changeLink ea53 (Nat.le_of_ble_eq_true rfl) (w_Tk_changeLink hC (d := d) (by omega) er53) (fun v53 h53 q53 => ?_)
          obtain ⟨rfl, rfl⟩ := q53
          refine ag_goto d_GC_tamper_218 rfl ?_
          exact ag_dr (ag_d1 rfl (ag_d1 rfl ag_d0)) (w_GC_tamper_304 hC htr hH hyp)
        · replace hyp := md_ifn q3 hyp
          by_cases q4 : (x2) = (4 : Int32)
          · replace hyp := md_ifp q4 hyp
            refine ag_tabIn d_GC_tamper_106 (by rw [q4]; decide) (by rw [q4]; decide) (by rw [q4]; rfl) rfl ?_
            refine gc_aload (r := ((r2.1))) d_GC_tamper_221 rfl ?_
            refine ag_iload_n d_GC_tamper_223 rfl ?_
            refine gc_aload (r := ((r2.1))) d_GC_tamper_224 rfl ?_
            obtain ⟨g33, eg33, hyp⟩ := md_bd hyp
            refine gc_getr (r := ((r2.1))) d_GC_tamper_226 fr_GC_126 eg33 ?_
            refine ag_iload_n d_GC_tamper_229 rfl ?_
            obtain ⟨a35, ea35, hyp⟩ := md_bd hyp
            obtain ⟨r35, er35, hyp⟩ := md_bd hyp
            refine gc_callf (r := (g33)) (as := [.int (x3)]) d_GC_tamper_230 il_GC_118 ea35 (ag_w9 (ag_v1 rfl (ag_v1 (ag_cat_rf _) ag_v0)) (Nat.le_of_ble_eq_true rfl)) (w_AL_get hC (d := d) (by omega) er35) (fun v35 h35 q35 => ?_)
            obtain ⟨rfl, rfl⟩ := q35
            obtain ⟨q36, hyp⟩ := md_ifs hyp
            refine gc_cast (r := (r35.1)) d_GC_tamper_235 gw_643 rfl q36 ?_
            obtain ⟨g37, eg37, hyp⟩ := md_bd hyp
            refine gc_geti (r := (r35.1)) d_GC_tamper_238 fr_GC_167 eg37 ?_
            refine gc_aload_n (r := (some (a))) d_GC_tamper_241 rfl ?_
            obtain ⟨a39, ea39, hyp⟩ := md_bd hyp
            obtain ⟨r39, er39, hyp⟩ := md_bd hyp
            refine gc_callv (r := (some (a))) (as := []) d_GC_tamper_242 ml_GC_170 gw_641 rfl sl_GC_newKey ea39 (ag_w9 (ag_v1 rfl (ag_v1 rfl (ag_v1 (ag_cat_rf _) ag_v0))) (Nat.le_of_ble_eq_true rfl)) (w_GC_newKey hC (d := d) (by omega) er39) (fun v39 h39 q39 => ?_)
            obtain ⟨rfl, rfl⟩ := q39
            obtain ⟨a40, ea40, hyp⟩ := md_bd hyp
            obtain ⟨r40, er40, hyp⟩ := md_bd hyp
            refine gc_callv (r := ((r2.1))) (as := [.int (x3), .int (g37), .int (r39.1)]) d_GC_tamper_245 ml_GC_163 gw_779 rfl sl_Tk_changeLink ea40 (Nat.le_of_ble_eq_true rfl) (w_Tk_changeLink hC (d := d) (by omega) er40) (fun v40 h40 q40 => ?_)
            obtain ⟨rfl, rfl⟩ := q40
            refine ag_goto d_GC_tamper_248 rfl ?_
            exact ag_dr (ag_d1 rfl (ag_d1 rfl ag_d0)) (w_GC_tamper_304 hC htr hH hyp)
          · replace hyp := md_ifn q4 hyp
            by_cases q5 : (x2) = (5 : Int32)
            · replace hyp := md_ifp q5 hyp
              refine ag_tabIn d_GC_tamper_106 (by rw [q5]; decide) (by rw [q5]; decide) (by rw [q5]; rfl) rfl ?_
              refine gc_aload (r := ((r2.1))) d_GC_tamper_251 rfl ?_
              refine ag_iload_n d_GC_tamper_253 rfl ?_
              refine gc_aload (r := ((r2.1))) d_GC_tamper_254 rfl ?_
              obtain ⟨g12, eg12, hyp⟩ := md_bd hyp
              refine gc_getr (r := ((r2.1))) d_GC_tamper_256 fr_GC_126 eg12 ?_
              refine ag_iload_n d_GC_tamper_259 rfl ?_
              obtain ⟨a14, ea14, hyp⟩ := md_bd hyp
              obtain ⟨r14, er14, hyp⟩ := md_bd hyp
              refine gc_callf (r := (g12)) (as := [.int (x3)]) d_GC_tamper_260 il_GC_118 ea14 (ag_w9 (ag_v1 rfl (ag_v1 (ag_cat_rf _) ag_v0)) (Nat.le_of_ble_eq_true rfl)) (w_AL_get hC (d := d) (by omega) er14) (fun v14 h14 q14 => ?_)
              obtain ⟨rfl, rfl⟩ := q14
              obtain ⟨q15, hyp⟩ := md_ifs hyp
              refine gc_cast (r := (r14.1)) d_GC_tamper_265 gw_643 rfl q15 ?_
              obtain ⟨g16, eg16, hyp⟩ := md_bd hyp
              refine gc_geti (r := (r14.1)) d_GC_tamper_268 fr_GC_167 eg16 ?_
              refine gc_aload_n (r := (some (a))) d_GC_tamper_271 rfl ?_
              obtain ⟨a18, ea18, hyp⟩ := md_bd hyp
              obtain ⟨r18, er18, hyp⟩ := md_bd hyp
              refine gc_callv (r := (some (a))) (as := []) d_GC_tamper_272 ml_GC_170 gw_641 rfl sl_GC_newKey ea18 (ag_w9 (ag_v1 rfl (ag_v1 rfl (ag_v1 (ag_cat_rf _) ag_v0))) (Nat.le_of_ble_eq_true rfl)) (w_GC_newKey hC (d := d) (by omega) er18) (fun v18 h18 q18 => ?_)
              obtain ⟨rfl, rfl⟩ := q18
              obtain ⟨a19, ea19, hyp⟩ := md_bd hyp
              obtain ⟨r19, er19, hyp⟩ := md_bd hyp
              refine gc_callv (r := ((r2.1))) (as := [.int (x3), .int (g16), .int (r18.1)]) d_GC_tamper_275 ml_GC_163 gw_779 rfl sl_Tk_changeLink ea19 (Nat.le_of_ble_eq_true rfl) (w_Tk_changeLink hC (d := d) (by omega) er19) (fun v19 h19 q19 => ?_)
              obtain ⟨rfl, rfl⟩ := q19
              refine gc_aload (r := ((r2.1))) d_GC_tamper_278 rfl ?_
              refine ag_iload_n d_GC_tamper_280 rfl ?_
              refine ag_iconst d_GC_tamper_281 ?_
              refine ag_iadd d_GC_tamper_282 ?_
              obtain ⟨a24, ea24, hyp⟩ := md_bd hyp
              obtain ⟨r24, er24, hyp⟩ := md_bd hyp
              refine gc_callv (r := ((r2.1))) (as := [.int ((x3) + (Int32.ofInt 1))]) d_GC_tamper_283 ml_GC_147 gw_757 rfl sl_Tk_cutTo ea24 (Nat.le_of_ble_eq_true rfl) (w_Tk_cutTo hC (d := d) (by omega) er24) (fun v24 h24 q24 => ?_)
              obtain ⟨rfl, rfl⟩ := q24
              refine gc_aload (r := ((r2.1))) d_GC_tamper_286 rfl ?_
              refine gc_aload_n (r := (some (a))) d_GC_tamper_288 rfl ?_
              obtain ⟨g27, eg27, hyp⟩ := md_bd hyp
              refine gc_geti (r := (some (a))) d_GC_tamper_289 fr_GC_50 eg27 ?_
              obtain ⟨a28, ea28, hyp⟩ := md_bd hyp
              obtain ⟨r28, er28, hyp⟩ := md_bd hyp
              refine gc_callv (r := ((r2.1))) (as := [.int (g27)]) d_GC_tamper_292 ml_GC_173 gw_673 rfl sl_Tk_openWith ea28 (Nat.le_of_ble_eq_true rfl) (w_Tk_openWith hC (d := d) (by omega) er28) (fun v28 h28 q28 => ?_)
              obtain ⟨rfl, rfl⟩ := q28
              refine ag_goto d_GC_tamper_295 rfl ?_
              exact ag_dr (ag_d1 rfl (ag_d1 rfl ag_d0)) (w_GC_tamper_304 hC htr hH hyp)
            · replace hyp := md_ifn q5 hyp
              refine ag_tabOut d_GC_tamper_106 (by have z0 : (x2).toInt ≠ 0 := ag_ne q0; have z1 : (x2).toInt ≠ 1 := ag_ne q1; have z2 : (x2).toInt ≠ 2 := ag_ne q2; have z3 : (x2).toInt ≠ 3 := ag_ne q3; have z4 : (x2).toInt ≠ 4 := ag_ne q4; have z5 : (x2).toInt ≠ 5 := ag_ne q5; omega) rfl ?_
              refine gc_aload (r := ((r2.1))) d_GC_tamper_298 rfl ?_
              refine ag_iload_n d_GC_tamper_300 rfl ?_
              obtain ⟨a8, ea8, hyp⟩ := md_bd hyp
              obtain ⟨r8, er8, hyp⟩ := md_bd hyp
              refine gc_callv (r := ((r2.1))) (as := [.int (x3)]) d_GC_tamper_301 ml_GC_176 gw_798 rfl sl_Tk_signAnew ea8 (Nat.le_of_ble_eq_true rfl) (w_Tk_signAnew hC (d := d) (by omega) er8) (fun v8 h8 q8 => ?_)
              obtain ⟨rfl, rfl⟩ := q8
              exact ag_dr (ag_d1 rfl (ag_d1 rfl ag_d0)) (w_GC_tamper_304 hC htr hH hyp)
theorem w_GC_tamper_0 {l : Launch} {G : ag_G} {d N : Nat} {C : Nat × Nat} {a : Nat} (hC : ag_cN G = C.1 ∧ ag_cS G = C.2) (htr : ∀ e : Env, l.admits e → e.platform.stackTraces = false) (hH : 6 ≤ d) {x1 : Int32} {x2 : Int32} {x3 : Int32} {x4 : Int32} {h : ag_H} {res : (Int32 ⊕ Nat) × ag_H} (hyp : fn_GC_tamper_0 N C a x1 x2 x3 x4 h = some res) : ag_ev gc_P l G m_GC_tamper (d + 1) (ag_out gc_P G res.1 res.2) 0 [(0, .ref a), (1, .int (x1)), (2, .int (x2)), (3, .int (x3)), (4, .int (x4))] [] h := by
  unfold fn_GC_tamper_0 at hyp
  have hc : ag_C1 [(0, .ref a), (1, .int (x1)), (2, .int (x2)), (3, .int (x3)), (4, .int (x4))] := (ag_c1 rfl (ag_c1 rfl (ag_c1 rfl (ag_c1 rfl (ag_c1 rfl ag_c0)))))
  refine gc_aload_n (r := (some (a))) d_GC_tamper_0 rfl ?_
  refine ag_iload_n d_GC_tamper_1 rfl ?_
  obtain ⟨a3, ea3, hyp⟩ := md_bd hyp
  obtain ⟨r3, er3, hyp⟩ := md_bd hyp
  refine gc_callv (r := (some (a))) (as := [.int (x1)]) d_GC_tamper_2 ml_GC_112 gw_690 rfl sl_GC_isToken ea3 (Nat.le_of_ble_eq_true rfl) (w_GC_isToken hC (d := d) (by omega) er3) (fun v3 h3 q3 => ?_)
  obtain ⟨rfl, rfl⟩ := q3
  refine ag_if_eq d_GC_tamper_5 rfl (fun q => ?_) (fun q => ?_)
  · replace hyp := md_ifp q hyp
    exact ag_dr (ag_d1 rfl ag_d0) (w_GC_tamper_39 hC htr hH hyp)
  · replace hyp := md_ifn q hyp
    refine gc_aload_n (r := (some (a))) d_GC_tamper_8 rfl ?_
    obtain ⟨g6, eg6, hyp⟩ := md_bd hyp
    refine gc_getr (r := (some (a))) d_GC_tamper_9 fr_GC_44 eg6 ?_
    refine ag_iload_n d_GC_tamper_12 rfl ?_
    obtain ⟨a8, ea8, hyp⟩ := md_bd hyp
    obtain ⟨r8, er8, hyp⟩ := md_bd hyp
    refine gc_callf (r := (g6)) (as := [.int (x1)]) d_GC_tamper_13 il_GC_118 ea8 (Nat.le_of_ble_eq_true rfl) (w_AL_get hC (d := d) (by omega) er8) (fun v8 h8 q8 => ?_)
    obtain ⟨rfl, rfl⟩ := q8
    obtain ⟨q9, hyp⟩ := md_ifs hyp
    refine gc_cast (r := (r8.1)) d_GC_tamper_18 gw_610 rfl q9 ?_
    obtain ⟨g10, eg10, hyp⟩ := md_bd hyp
    refine gc_getr (r := (r8.1)) d_GC_tamper_21 fr_GC_126 eg10 ?_
    obtain ⟨a11, ea11, hyp⟩ := md_bd hyp
    obtain ⟨r11, er11, hyp⟩ := md_bd hyp
    refine gc_callf (r := (g10)) (as := []) d_GC_tamper_24 il_GC_85 ea11 (Nat.le_of_ble_eq_true rfl) (w_AL_size hC (d := d) (by omega) er11) (fun v11 h11 q11 => ?_)
    obtain ⟨rfl, rfl⟩ := q11
    refine ag_iload_n d_GC_tamper_29 rfl ?_
    refine ag_iload_n d_GC_tamper_30 rfl ?_
    refine ag_iload d_GC_tamper_31 rfl ?_
    obtain ⟨r15, er15, hyp⟩ := md_bd hyp
    refine ag_calls (as := [.int (r11.1), .int (x2), .int (x3), .int (x4)]) d_GC_tamper_33 ml_GC_143 gw_754 (Nat.le_of_ble_eq_true rfl) (w_GC_canTamper hC (d := d) (by omega) er15) (fun v15 h15 q15 => ?_)
    obtain ⟨rfl, rfl⟩ := q15
    refine ag_if_ne d_GC_tamper_36 rfl (fun q => ?_) (fun q => ?_)
    · replace hyp := md_ifn q hyp
      refine gc_aload_n (r := (some (a))) d_GC_tamper_47 rfl ?_
      obtain ⟨g18, eg18, hyp⟩ := md_bd hyp
      refine gc_getr (r := (some (a))) d_GC_tamper_48 fr_GC_44 eg18 ?_
      refine ag_iload_n d_GC_tamper_51 rfl ?_
      obtain ⟨a20, ea20, hyp⟩ := md_bd hyp
      obtain ⟨r20, er20, hyp⟩ := md_bd hyp
      refine gc_callf (r := (g18)) (as := [.int (x1)]) d_GC_tamper_52 il_GC_118 ea20 (Nat.le_of_ble_eq_true rfl) (w_AL_get hC (d := d) (by omega) er20) (fun v20 h20 q20 => ?_)
      obtain ⟨rfl, rfl⟩ := q20
      obtain ⟨q21, hyp⟩ := md_ifs hyp
      refine gc_cast (r := (r20.1)) d_GC_tamper_57 gw_610 rfl q21 ?_
      refine gc_astore0 (r := (r20.1)) d_GC_tamper_60 (by decide) hc ?_
      replace hc := ag_cs (i := 5) (v := ag_rf (r20.1)) hc (ag_cat_rf _)
      refine gc_aload_n (r := (some (a))) d_GC_tamper_62 rfl ?_
      obtain ⟨g24, eg24, hyp⟩ := md_bd hyp
      refine gc_getr (r := (some (a))) d_GC_tamper_63 fr_GC_44 eg24 ?_
      obtain ⟨a25, ea25, hyp⟩ := md_bd hyp
      obtain ⟨r25, er25, hyp⟩ := md_bd hyp
      refine gc_callf (r := (g24)) (as := []) d_GC_tamper_66 il_GC_85 ea25 (Nat.le_of_ble_eq_true rfl) (w_AL_size hC (d := d) (by omega) er25) (fun v25 h25 q25 => ?_)
      obtain ⟨rfl, rfl⟩ := q25
      refine ag_bipush d_GC_tamper_71 ?_
      refine ag_icmp_ge d_GC_tamper_73 rfl (fun q => ?_) (fun q => ?_)
      · replace hyp := md_ifp q hyp
        exact ag_dr (ag_d1 rfl ag_d0) (w_GC_tamper_90 hC htr hH hyp)
      · replace hyp := md_ifn q hyp
        refine ag_iload_n d_GC_tamper_76 rfl ?_
        refine ag_bipush d_GC_tamper_77 ?_
        refine ag_icmp_ne d_GC_tamper_79 rfl (fun q => ?_) (fun q => ?_)
        · replace hyp := md_ifn q hyp
          exact ag_dr (ag_d1 rfl (ag_d1 rfl (ag_d1 rfl (ag_d1 rfl (ag_d1 rfl ag_d0))))) (w_GC_tamper_98 hC htr hH hyp)
        · replace hyp := md_ifp q hyp
          refine gc_aload (r := ((r20.1))) d_GC_tamper_82 rfl ?_
          obtain ⟨g32, eg32, hyp⟩ := md_bd hyp
          refine gc_geti (r := ((r20.1))) d_GC_tamper_84 fr_GC_122 eg32 ?_
          refine ag_if_eq d_GC_tamper_87 rfl (fun q => ?_) (fun q => ?_)
          · replace hyp := md_ifp q hyp
            exact ag_dr (ag_d1 rfl (ag_d1 rfl (ag_d1 rfl (ag_d1 rfl (ag_d1 rfl ag_d0))))) (w_GC_tamper_98 hC htr hH hyp)
          · replace hyp := md_ifn q hyp
            exact ag_dr (ag_d1 rfl ag_d0) (w_GC_tamper_90 hC htr hH hyp)
    · replace hyp := md_ifp q hyp
      exact ag_dr (ag_d1 rfl ag_d0) (w_GC_tamper_39 hC htr hH hyp)
theorem w_GC_tamper {l : Launch} {G : ag_G} {d N : Nat} {C : Nat × Nat} (hC : ag_cN G = C.1 ∧ ag_cS G = C.2) (htr : ∀ e : Env, l.admits e → e.platform.stackTraces = false) (hH : 6 + 1 ≤ d) {a : Nat} {p1 : Int32} {p2 : Int32} {p3 : Int32} {p4 : Int32} {h : ag_H} {x : Int32} {h' : ag_H} (hyp : fn_GC_tamper N C a p1 p2 p3 p4 h = some (.inl x, h')) : ag_Met gc_P l G m_GC_tamper d [.ref a, .int (p1), .int (p2), .int (p3), .int (p4)] h (fun v h'' => v = some (.int x) ∧ h'' = h') := by
  obtain ⟨d, rfl, hG⟩ := md_dd hH
  exact ag_met (by decide) rfl (Nat.le_of_ble_eq_true rfl) (ag_dr (ag_d1 rfl (ag_d1 rfl (ag_d1 rfl (ag_d1 rfl (ag_d1 rfl ag_d0))))) (w_GC_tamper_0 hC htr hG hyp))
theorem t_GC_tamper {l : Launch} {G : ag_G} {d N : Nat} {C : Nat × Nat} (hC : ag_cN G = C.1 ∧ ag_cS G = C.2) (htr : ∀ e : Env, l.admits e → e.platform.stackTraces = false) (hH : 6 + 1 ≤ d) {a : Nat} {p1 : Int32} {p2 : Int32} {p3 : Int32} {p4 : Int32} {h : ag_H} {x : Nat} {h' : ag_H} (hyp : fn_GC_tamper N C a p1 p2 p3 p4 h = some (.inr x, h')) : ag_MetT gc_P l G m_GC_tamper d [.ref a, .int (p1), .int (p2), .int (p3), .int (p4)] h (fun x' h'' => x' = x ∧ h'' = h') := by
  obtain ⟨d, rfl, hG⟩ := md_dd hH
  exact ag_metT (by decide) rfl (Nat.le_of_ble_eq_true rfl) (ag_dr (ag_d1 rfl (ag_d1 rfl (ag_d1 rfl (ag_d1 rfl (ag_d1 rfl ag_d0))))) (w_GC_tamper_0 hC htr hG hyp))
def fn_Fa_begin_0 (N : Nat) (C : Nat × Nat) (a : Nat) (x1 : Int32) (h : ag_H) : Option ((Int32) × ag_H) := (ag_pf h (ag_rf (some (a))) 4 3 .int (.int (x1))).bind fun h3 => (ag_pf h3 (ag_rf (some (a))) 4 1 .int (.int (Int32.ofInt 0))).bind fun h6 => (ag_pf h6 (ag_rf (some (a))) 4 2 .boolean (.int (Int32.ofInt 0))).bind fun h9 => some (0, h9)
def fn_Fa_begin (N : Nat) (C : Nat × Nat) (a : Nat) (p1 : Int32) (h : ag_H) : Option ((Int32) × ag_H) := fn_Fa_begin_0 N C a p1 h
theorem w_Fa_begin_0 {l : Launch} {G : ag_G} {d N : Nat} {C : Nat × Nat} {a : Nat} (hC : ag_cN G = C.1 ∧ ag_cS G = C.2) {x1 : Int32} {h : ag_H} {res : (Int32) × ag_H} (hyp : fn_Fa_begin_0 N C a x1 h = some res) : ag_ev gc_P l G m_Fa_begin (d) (ag_ret gc_P G (fun v h' => v = none ∧ h' = res.2)) 0 [(0, .ref a), (1, .int (x1))] [] h := by
  unfold fn_Fa_begin_0 at hyp
  have hc : ag_C1 [(0, .ref a), (1, .int (x1))] := (ag_c1 rfl (ag_c1 rfl ag_c0))
  refine gc_aload_n (r := (some (a))) d_Fa_begin_0 rfl ?_
  refine ag_iload_n d_Fa_begin_1 rfl ?_
  obtain ⟨h3, eh3, hyp⟩ := md_bd hyp
  refine gc_putf (r := (some (a))) d_Fa_begin_2 fl_Fa_16 (fun q => by cases q) eh3 ?_
  refine gc_aload_n (r := (some (a))) d_Fa_begin_5 rfl ?_
  refine ag_iconst d_Fa_begin_6 ?_
  obtain ⟨h6, eh6, hyp⟩ := md_bd hyp
  refine gc_putf (r := (some (a))) d_Fa_begin_7 fl_Fa_20 (fun q => by cases q) eh6 ?_
  refine gc_aload_n (r := (some (a))) d_Fa_begin_10 rfl ?_
  refine ag_iconst d_Fa_begin_11 ?_
  obtain ⟨h9, eh9, hyp⟩ := md_bd hyp
  refine gc_putf (r := (some (a))) d_Fa_begin_12 fl_Fa_23 (fun q => by cases q) eh9 ?_
  cases hyp
  exact ag_vret d_Fa_begin_15 rfl ⟨rfl, rfl⟩
theorem w_Fa_begin {l : Launch} {G : ag_G} {d N : Nat} {C : Nat × Nat} (hC : ag_cN G = C.1 ∧ ag_cS G = C.2) (hH : 0 ≤ d) {a : Nat} {p1 : Int32} {h : ag_H} {res : (Int32) × ag_H} (hyp : fn_Fa_begin N C a p1 h = some res) : ag_Met gc_P l G m_Fa_begin d [.ref a, .int (p1)] h (fun v h' => v = none ∧ h' = res.2) := by
  exact ag_met (by decide) rfl (Nat.le_of_ble_eq_true rfl) (ag_dr (ag_d1 rfl (ag_d1 rfl ag_d0)) (w_Fa_begin_0 hC hyp))
def fn_Jg_begin_0 (N : Nat) (C : Nat × Nat) (a : Nat) (x1 : Int32) (h : ag_H) : Option ((Int32) × ag_H) := (ag_gr h (some (a)) 3 0).bind fun g2 => (ag_rc h (g2) 4).bind fun a4 => (fn_Fa_begin N C a4 (x1) h).bind fun r4 => (ag_pf r4.2 (ag_rf (some (a))) 3 4 .int (.int (Int32.ofInt 0))).bind fun h7 => (ag_pf h7 (ag_rf (some (a))) 3 5 .int (.int (Int32.ofInt 0))).bind fun h10 => some (0, h10)
def fn_Jg_begin (N : Nat) (C : Nat × Nat) (a : Nat) (p1 : Int32) (h : ag_H) : Option ((Int32) × ag_H) := fn_Jg_begin_0 N C a p1 h
theorem w_Jg_begin_0 {l : Launch} {G : ag_G} {d N : Nat} {C : Nat × Nat} {a : Nat} (hC : ag_cN G = C.1 ∧ ag_cS G = C.2) (hH : 0 ≤ d) {x1 : Int32} {h : ag_H} {res : (Int32) × ag_H} (hyp : fn_Jg_begin_0 N C a x1 h = some res) : ag_ev gc_P l G m_Jg_begin (d + 1) (ag_ret gc_P G (fun v h' => v = none ∧ h' = res.2)) 0 [(0, .ref a), (1, .int (x1))] [] h := by
  unfold fn_Jg_begin_0 at hyp
  have hc : ag_C1 [(0, .ref a), (1, .int (x1))] := (ag_c1 rfl (ag_c1 rfl ag_c0))
  refine gc_aload_n (r := (some (a))) d_Jg_begin_0 rfl ?_
  obtain ⟨g2, eg2, hyp⟩ := md_bd hyp
  refine gc_getr (r := (some (a))) d_Jg_begin_1 fr_Jg_14 eg2 ?_
  refine ag_iload_n d_Jg_begin_4 rfl ?_
  obtain ⟨a4, ea4, hyp⟩ := md_bd hyp
  obtain ⟨r4, er4, hyp⟩ := md_bd hyp
  refine gc_callv (r := (g2)) (as := [.int (x1)]) d_Jg_begin_5 ml_Jg_36 gw_813 rfl sl_Fa_begin ea4 (Nat.le_of_ble_eq_true rfl) (w_Fa_begin hC (d := d) (by omega) er4) (fun v4 h4 q4 => ?_)
  obtain ⟨rfl, rfl⟩ := q4
  refine gc_aload_n (r := (some (a))) d_Jg_begin_8 rfl ?_
  refine ag_iconst d_Jg_begin_9 ?_
  obtain ⟨h7, eh7, hyp⟩ := md_bd hyp
  refine gc_putf (r := (some (a))) d_Jg_begin_10 fl_Jg_40 (fun q => by cases q) eh7 ?_
  refine gc_aload_n (r := (some (a))) d_Jg_begin_13 rfl ?_
  refine ag_iconst d_Jg_begin_14 ?_
  obtain ⟨h10, eh10, hyp⟩ := md_bd hyp
  refine gc_putf (r := (some (a))) d_Jg_begin_15 fl_Jg_44 (fun q => by cases q) eh10 ?_
  cases hyp
  exact ag_vret d_Jg_begin_18 rfl ⟨rfl, rfl⟩
theorem w_Jg_begin {l : Launch} {G : ag_G} {d N : Nat} {C : Nat × Nat} (hC : ag_cN G = C.1 ∧ ag_cS G = C.2) (hH : 0 + 1 ≤ d) {a : Nat} {p1 : Int32} {h : ag_H} {res : (Int32) × ag_H} (hyp : fn_Jg_begin N C a p1 h = some res) : ag_Met gc_P l G m_Jg_begin d [.ref a, .int (p1)] h (fun v h' => v = none ∧ h' = res.2) := by
  obtain ⟨d, rfl, hG⟩ := md_dd hH
  exact ag_met (by decide) rfl (Nat.le_of_ble_eq_true rfl) (ag_dr (ag_d1 rfl (ag_d1 rfl ag_d0)) (w_Jg_begin_0 hC hG hyp))
def fn_Lk_isSignedBy_35 (N : Nat) (C : Nat × Nat) (a : Nat) (s0 : Int32) (h : ag_H) : Option ((Int32) × ag_H) := if md_01 (s0) = true then (some ((s0), h)) else none
def fn_Lk_isSignedBy_34 (N : Nat) (C : Nat × Nat) (a : Nat) (h : ag_H) : Option ((Int32) × ag_H) := fn_Lk_isSignedBy_35 N C a (Int32.ofInt 0) h
def fn_Lk_isSignedBy_0 (N : Nat) (C : Nat × Nat) (a : Nat) (x1 : Int32) (h : ag_H) : Option ((Int32) × ag_H) := (ag_gi h (some (a)) 9 2).bind fun g2 => if (g2) = (x1) then ((ag_gi h (some (a)) 9 3).bind fun g6 => (ag_gi h (some (a)) 9 0).bind fun g8 => if (g6) = (g8) then ((ag_gi h (some (a)) 9 4).bind fun g11 => (ag_gi h (some (a)) 9 1).bind fun g13 => if (g11) = (g13) then (fn_Lk_isSignedBy_35 N C a (Int32.ofInt 1) h) else (fn_Lk_isSignedBy_34 N C a  h)) else (fn_Lk_isSignedBy_34 N C a  h)) else (fn_Lk_isSignedBy_34 N C a  h)
def fn_Lk_isSignedBy (N : Nat) (C : Nat × Nat) (a : Nat) (p1 : Int32) (h : ag_H) : Option ((Int32) × ag_H) := fn_Lk_isSignedBy_0 N C a p1 h
theorem w_Lk_isSignedBy_35 {l : Launch} {G : ag_G} {d N : Nat} {C : Nat × Nat} {a : Nat} (hC : ag_cN G = C.1 ∧ ag_cS G = C.2) {s0 : Int32} {h : ag_H} {res : (Int32) × ag_H} (hyp : fn_Lk_isSignedBy_35 N C a s0 h = some res) : ag_ev gc_P l G m_Lk_isSignedBy (d) (ag_ret gc_P G (fun v h' => v = some (.int res.1) ∧ h' = res.2)) 35 [(0, .ref a)] [.int (s0)] h := by
  unfold fn_Lk_isSignedBy_35 at hyp
  have hc : ag_C1 [(0, .ref a)] := (ag_c1 rfl ag_c0)
  obtain ⟨q1, hyp⟩ := md_ifs hyp
  cases hyp
  exact ag_iret d_Lk_isSignedBy_35 rfl (md_01n q1) ⟨rfl, rfl⟩
theorem w_Lk_isSignedBy_34 {l : Launch} {G : ag_G} {d N : Nat} {C : Nat × Nat} {a : Nat} (hC : ag_cN G = C.1 ∧ ag_cS G = C.2) {h : ag_H} {res : (Int32) × ag_H} (hyp : fn_Lk_isSignedBy_34 N C a h = some res) : ag_ev gc_P l G m_Lk_isSignedBy (d) (ag_ret gc_P G (fun v h' => v = some (.int res.1) ∧ h' = res.2)) 34 [(0, .ref a)] [] h := by
  unfold fn_Lk_isSignedBy_34 at hyp
  have hc : ag_C1 [(0, .ref a)] := (ag_c1 rfl ag_c0)
  refine ag_iconst d_Lk_isSignedBy_34 ?_
  exact ag_dr (ag_d1 rfl ag_d0) (w_Lk_isSignedBy_35 hC hyp)
theorem w_Lk_isSignedBy_0 {l : Launch} {G : ag_G} {d N : Nat} {C : Nat × Nat} {a : Nat} (hC : ag_cN G = C.1 ∧ ag_cS G = C.2) {x1 : Int32} {h : ag_H} {res : (Int32) × ag_H} (hyp : fn_Lk_isSignedBy_0 N C a x1 h = some res) : ag_ev gc_P l G m_Lk_isSignedBy (d) (ag_ret gc_P G (fun v h' => v = some (.int res.1) ∧ h' = res.2)) 0 [(0, .ref a), (1, .int (x1))] [] h := by
  unfold fn_Lk_isSignedBy_0 at hyp
  have hc : ag_C1 [(0, .ref a), (1, .int (x1))] := (ag_c1 rfl (ag_c1 rfl ag_c0))
  refine gc_aload_n (r := (some (a))) d_Lk_isSignedBy_0 rfl ?_
  obtain ⟨g2, eg2, hyp⟩ := md_bd hyp
  refine gc_geti (r := (some (a))) d_Lk_isSignedBy_1 fr_Lk_16 eg2 ?_
  refine ag_iload_n d_Lk_isSignedBy_4 rfl ?_
  refine ag_icmp_ne d_Lk_isSignedBy_5 rfl (fun q => ?_) (fun q => ?_)
  · replace hyp := md_ifn q hyp
    exact ag_dr (ag_d1 rfl ag_d0) (w_Lk_isSignedBy_34 hC hyp)
  · replace hyp := md_ifp q hyp
    refine gc_aload_n (r := (some (a))) d_Lk_isSignedBy_8 rfl ?_
    obtain ⟨g6, eg6, hyp⟩ := md_bd hyp
    refine gc_geti (r := (some (a))) d_Lk_isSignedBy_9 fr_Lk_19 eg6 ?_
    refine gc_aload_n (r := (some (a))) d_Lk_isSignedBy_12 rfl ?_
    obtain ⟨g8, eg8, hyp⟩ := md_bd hyp
    refine gc_geti (r := (some (a))) d_Lk_isSignedBy_13 fr_Lk_7 eg8 ?_
    refine ag_icmp_ne d_Lk_isSignedBy_16 rfl (fun q => ?_) (fun q => ?_)
    · replace hyp := md_ifn q hyp
      exact ag_dr (ag_d1 rfl ag_d0) (w_Lk_isSignedBy_34 hC hyp)
    · replace hyp := md_ifp q hyp
      refine gc_aload_n (r := (some (a))) d_Lk_isSignedBy_19 rfl ?_
      obtain ⟨g11, eg11, hyp⟩ := md_bd hyp
      refine gc_geti (r := (some (a))) d_Lk_isSignedBy_20 fr_Lk_22 eg11 ?_
      refine gc_aload_n (r := (some (a))) d_Lk_isSignedBy_23 rfl ?_
      obtain ⟨g13, eg13, hyp⟩ := md_bd hyp
      refine gc_geti (r := (some (a))) d_Lk_isSignedBy_24 fr_Lk_13 eg13 ?_
      refine ag_icmp_ne d_Lk_isSignedBy_27 rfl (fun q => ?_) (fun q => ?_)
      · replace hyp := md_ifn q hyp
        exact ag_dr (ag_d1 rfl ag_d0) (w_Lk_isSignedBy_34 hC hyp)
      · replace hyp := md_ifp q hyp
        refine ag_iconst d_Lk_isSignedBy_30 ?_
        refine ag_goto d_Lk_isSignedBy_31 rfl ?_
        exact ag_dr (ag_d1 rfl ag_d0) (w_Lk_isSignedBy_35 hC hyp)
theorem w_Lk_isSignedBy {l : Launch} {G : ag_G} {d N : Nat} {C : Nat × Nat} (hC : ag_cN G = C.1 ∧ ag_cS G = C.2) (hH : 0 ≤ d) {a : Nat} {p1 : Int32} {h : ag_H} {res : (Int32) × ag_H} (hyp : fn_Lk_isSignedBy N C a p1 h = some res) : ag_Met gc_P l G m_Lk_isSignedBy d [.ref a, .int (p1)] h (fun v h' => v = some (.int res.1) ∧ h' = res.2) := by
  exact ag_met (by decide) rfl (Nat.le_of_ble_eq_true rfl) (ag_dr (ag_d1 rfl (ag_d1 rfl ag_d0)) (w_Lk_isSignedBy_0 hC hyp))
def fn_Tk_isRightFor_91 (N : Nat) (C : Nat × Nat) (a : Nat) (s0 : Int32) (h : ag_H) : Option ((Int32) × ag_H) := if md_01 (s0) = true then (some ((s0), h)) else none
def fn_Tk_isRightFor_90 (N : Nat) (C : Nat × Nat) (a : Nat) (h : ag_H) : Option ((Int32) × ag_H) := fn_Tk_isRightFor_91 N C a (Int32.ofInt 0) h
def fn_Tk_isRightFor_86 (N : Nat) (C : Nat × Nat) (a : Nat) (h : ag_H) : Option ((Int32) × ag_H) := fn_Tk_isRightFor_91 N C a (Int32.ofInt 1) h
def fn_Tk_isRightFor_4 (N : Nat) (C : Nat × Nat) (a : Nat) : Nat → Int32 → Int32 → ag_H → Option ((Int32) × ag_H)
  | 0, _, _, _ => none
  | n + 1, x2, x3, h => (ag_gr h (some (a)) 8 0).bind fun g3 => (ag_rc h (g3) 11).bind fun a4 => (fn_AL_size N C a4  h).bind fun r4 => if (r4.1) ≤ (x3) then ((ag_gi r4.2 (some (a)) 8 2).bind fun g7 => if (g7) = (x2) then ((ag_gi r4.2 (some (a)) 8 1).bind fun g11 => if (g11) = (0) then (fn_Tk_isRightFor_86 N C a  r4.2) else ((ag_gi r4.2 (some (a)) 8 3).bind fun g14 => (ag_gr r4.2 (some (a)) 8 0).bind fun g16 => (ag_rc r4.2 (g16) 11).bind fun a17 => (fn_AL_size N C a17  r4.2).bind fun r17 => if (g14) = (r17.1) then (fn_Tk_isRightFor_86 N C a  r17.2) else (fn_Tk_isRightFor_90 N C a  r17.2))) else (fn_Tk_isRightFor_90 N C a  r4.2)) else ((ag_gr r4.2 (some (a)) 8 0).bind fun g20 => (ag_rc r4.2 (g20) 11).bind fun a22 => (fn_AL_get N C a22 (x3) r4.2).bind fun r22 => if ag_ck r22.2 (r22.1) 9 = true then ((ag_rc r22.2 ((r22.1)) 9).bind fun a27 => (fn_Lk_isSignedBy N C a27 (x2) r22.2).bind fun r27 => if (r27.1) = (0) then (if md_01 (Int32.ofInt 0) = true then (some ((Int32.ofInt 0), r27.2)) else none) else ((ag_gi r27.2 ((r22.1)) 9 1).bind fun g30 => fn_Tk_isRightFor_4 N C a n (g30) ((x3) + Int32.ofInt (1)) r27.2)) else none)
theorem fe_Tk_isRightFor_4 (N : Nat) (C : Nat × Nat) (a : Nat) (n : Nat) (x2 : Int32) (x3 : Int32) (h : ag_H) : fn_Tk_isRightFor_4 N C a (n + 1) x2 x3 h = ((ag_gr h (some (a)) 8 0).bind fun g3 => (ag_rc h (g3) 11).bind fun a4 => (fn_AL_size N C a4  h).bind fun r4 => if (r4.1) ≤ (x3) then ((ag_gi r4.2 (some (a)) 8 2).bind fun g7 => if (g7) = (x2) then ((ag_gi r4.2 (some (a)) 8 1).bind fun g11 => if (g11) = (0) then (fn_Tk_isRightFor_86 N C a  r4.2) else ((ag_gi r4.2 (some (a)) 8 3).bind fun g14 => (ag_gr r4.2 (some (a)) 8 0).bind fun g16 => (ag_rc r4.2 (g16) 11).bind fun a17 => (fn_AL_size N C a17  r4.2).bind fun r17 => if (g14) = (r17.1) then (fn_Tk_isRightFor_86 N C a  r17.2) else (fn_Tk_isRightFor_90 N C a  r17.2))) else (fn_Tk_isRightFor_90 N C a  r4.2)) else ((ag_gr r4.2 (some (a)) 8 0).bind fun g20 => (ag_rc r4.2 (g20) 11).bind fun a22 => (fn_AL_get N C a22 (x3) r4.2).bind fun r22 => if ag_ck r22.2 (r22.1) 9 = true then ((ag_rc r22.2 ((r22.1)) 9).bind fun a27 => (fn_Lk_isSignedBy N C a27 (x2) r22.2).bind fun r27 => if (r27.1) = (0) then (if md_01 (Int32.ofInt 0) = true then (some ((Int32.ofInt 0), r27.2)) else none) else ((ag_gi r27.2 ((r22.1)) 9 1).bind fun g30 => fn_Tk_isRightFor_4 N C a n (g30) ((x3) + Int32.ofInt (1)) r27.2)) else none)) := rfl
def fn_Tk_isRightFor_0 (N : Nat) (C : Nat × Nat) (a : Nat) (x1 : Int32) (h : ag_H) : Option ((Int32) × ag_H) := fn_Tk_isRightFor_4 N C a N (x1) (Int32.ofInt 0) h
def fn_Tk_isRightFor (N : Nat) (C : Nat × Nat) (a : Nat) (p1 : Int32) (h : ag_H) : Option ((Int32) × ag_H) := fn_Tk_isRightFor_0 N C a p1 h
theorem w_Tk_isRightFor_91 {l : Launch} {G : ag_G} {d N : Nat} {C : Nat × Nat} {a : Nat} (hC : ag_cN G = C.1 ∧ ag_cS G = C.2) (hH : 2 ≤ d) {s0 : Int32} {h : ag_H} {res : (Int32) × ag_H} (hyp : fn_Tk_isRightFor_91 N C a s0 h = some res) : ag_ev gc_P l G m_Tk_isRightFor (d + 1) (ag_ret gc_P G (fun v h' => v = some (.int res.1) ∧ h' = res.2)) 91 [(0, .ref a)] [.int (s0)] h := by
  unfold fn_Tk_isRightFor_91 at hyp
  have hc : ag_C1 [(0, .ref a)] := (ag_c1 rfl ag_c0)
  obtain ⟨q1, hyp⟩ := md_ifs hyp
  cases hyp
  exact ag_iret d_Tk_isRightFor_91 rfl (md_01n q1) ⟨rfl, rfl⟩
theorem w_Tk_isRightFor_90 {l : Launch} {G : ag_G} {d N : Nat} {C : Nat × Nat} {a : Nat} (hC : ag_cN G = C.1 ∧ ag_cS G = C.2) (hH : 2 ≤ d) {h : ag_H} {res : (Int32) × ag_H} (hyp : fn_Tk_isRightFor_90 N C a h = some res) : ag_ev gc_P l G m_Tk_isRightFor (d + 1) (ag_ret gc_P G (fun v h' => v = some (.int res.1) ∧ h' = res.2)) 90 [(0, .ref a)] [] h := by
  unfold fn_Tk_isRightFor_90 at hyp
  have hc : ag_C1 [(0, .ref a)] := (ag_c1 rfl ag_c0)
  refine ag_iconst d_Tk_isRightFor_90 ?_
  exact ag_dr (ag_d1 rfl ag_d0) (w_Tk_isRightFor_91 hC hH hyp)
theorem w_Tk_isRightFor_86 {l : Launch} {G : ag_G} {d N : Nat} {C : Nat × Nat} {a : Nat} (hC : ag_cN G = C.1 ∧ ag_cS G = C.2) (hH : 2 ≤ d) {h : ag_H} {res : (Int32) × ag_H} (hyp : fn_Tk_isRightFor_86 N C a h = some res) : ag_ev gc_P l G m_Tk_isRightFor (d + 1) (ag_ret gc_P G (fun v h' => v = some (.int res.1) ∧ h' = res.2)) 86 [(0, .ref a)] [] h := by
  unfold fn_Tk_isRightFor_86 at hyp
  have hc : ag_C1 [(0, .ref a)] := (ag_c1 rfl ag_c0)
  refine ag_iconst d_Tk_isRightFor_86 ?_
  refine ag_goto d_Tk_isRightFor_87 rfl ?_
  exact ag_dr (ag_d1 rfl ag_d0) (w_Tk_isRightFor_91 hC hH hyp)
theorem w_Tk_isRightFor_4 {l : Launch} {G : ag_G} {d N : Nat} {C : Nat × Nat} {a : Nat} (hC : ag_cN G = C.1 ∧ ag_cS G = C.2) (hH : 2 ≤ d) : ∀ (n : Nat) (res : (Int32) × ag_H) (x2 : Int32) (x3 : Int32) (h : ag_H) , fn_Tk_isRightFor_4 N C a n x2 x3 h = some res → ag_ev gc_P l G m_Tk_isRightFor (d + 1) (ag_ret gc_P G (fun v h' => v = some (.int res.1) ∧ h' = res.2)) 4 [(0, .ref a), (2, .int (x2)), (3, .int (x3))] [] h := by
  intro n
  induction n with
  | zero =>
    intro res x2 x3 h hyp
    cases hyp
  | succ n ih =>
    intro res x2 x3 h hyp
    rw [fe_Tk_isRightFor_4] at hyp
    have hc : ag_C1 [(0, .ref a), (2, .int (x2)), (3, .int (x3))] := (ag_c1 rfl (ag_c1 rfl (ag_c1 rfl ag_c0)))
    refine ag_iload_n d_Tk_isRightFor_4 rfl ?_
    refine gc_aload_n (r := (some (a))) d_Tk_isRightFor_5 rfl ?_
    obtain ⟨g3, eg3, hyp⟩ := md_bd hyp
    refine gc_getr (r := (some (a))) d_Tk_isRightFor_6 fr_Tk_10 eg3 ?_
    obtain ⟨a4, ea4, hyp⟩ := md_bd hyp
    obtain ⟨r4, er4, hyp⟩ := md_bd hyp
    refine gc_callf (r := (g3)) (as := []) d_Tk_isRightFor_9 il_Tk_17 ea4 (Nat.le_of_ble_eq_true rfl) (w_AL_size hC (d := d) (by omega) er4) (fun v4 h4 q4 => ?_)
    obtain ⟨rfl, rfl⟩ := q4
    refine ag_icmp_ge d_Tk_isRightFor_14 rfl (fun q => ?_) (fun q => ?_)
    · replace hyp := md_ifp q hyp
      refine gc_aload_n (r := (some (a))) d_Tk_isRightFor_55 rfl ?_
      obtain ⟨g7, eg7, hyp⟩ := md_bd hyp
      refine gc_geti (r := (some (a))) d_Tk_isRightFor_56 fr_Tk_37 eg7 ?_
      refine ag_iload_n d_Tk_isRightFor_59 rfl ?_
      refine ag_icmp_ne d_Tk_isRightFor_60 rfl (fun q => ?_) (fun q => ?_)
      · replace hyp := md_ifn q hyp
        exact ag_dr (ag_d1 rfl ag_d0) (w_Tk_isRightFor_90 hC hH hyp)
      · replace hyp := md_ifp q hyp
        refine gc_aload_n (r := (some (a))) d_Tk_isRightFor_63 rfl ?_
        obtain ⟨g11, eg11, hyp⟩ := md_bd hyp
        refine gc_geti (r := (some (a))) d_Tk_isRightFor_64 fr_Tk_33 eg11 ?_
        refine ag_if_eq d_Tk_isRightFor_67 rfl (fun q => ?_) (fun q => ?_)
        · replace hyp := md_ifp q hyp
          exact ag_dr (ag_d1 rfl ag_d0) (w_Tk_isRightFor_86 hC hH hyp)
        · replace hyp := md_ifn q hyp
          refine gc_aload_n (r := (some (a))) d_Tk_isRightFor_70 rfl ?_
          obtain ⟨g14, eg14, hyp⟩ := md_bd hyp
          refine gc_geti (r := (some (a))) d_Tk_isRightFor_71 fr_Tk_41 eg14 ?_
          refine gc_aload_n (r := (some (a))) d_Tk_isRightFor_74 rfl ?_
          obtain ⟨g16, eg16, hyp⟩ := md_bd hyp
          refine gc_getr (r := (some (a))) d_Tk_isRightFor_75 fr_Tk_10 eg16 ?_
          obtain ⟨a17, ea17, hyp⟩ := md_bd hyp
          obtain ⟨r17, er17, hyp⟩ := md_bd hyp
          refine gc_callf (r := (g16)) (as := []) d_Tk_isRightFor_78 il_Tk_17 ea17 (Nat.le_of_ble_eq_true rfl) (w_AL_size hC (d := d) (by omega) er17) (fun v17 h17 q17 => ?_)
          obtain ⟨rfl, rfl⟩ := q17
          refine ag_icmp_ne d_Tk_isRightFor_83 rfl (fun q => ?_) (fun q => ?_)
          · replace hyp := md_ifn q hyp
            exact ag_dr (ag_d1 rfl ag_d0) (w_Tk_isRightFor_90 hC hH hyp)
          · replace hyp := md_ifp q hyp
            exact ag_dr (ag_d1 rfl ag_d0) (w_Tk_isRightFor_86 hC hH hyp)
    · replace hyp := md_ifn q hyp
      refine gc_aload_n (r := (some (a))) d_Tk_isRightFor_17 rfl ?_
      obtain ⟨g20, eg20, hyp⟩ := md_bd hyp
      refine gc_getr (r := (some (a))) d_Tk_isRightFor_18 fr_Tk_10 eg20 ?_
      refine ag_iload_n d_Tk_isRightFor_21 rfl ?_
      obtain ⟨a22, ea22, hyp⟩ := md_bd hyp
      obtain ⟨r22, er22, hyp⟩ := md_bd hyp
      refine gc_callf (r := (g20)) (as := [.int (x3)]) d_Tk_isRightFor_22 il_Tk_23 ea22 (Nat.le_of_ble_eq_true rfl) (w_AL_get hC (d := d) (by omega) er22) (fun v22 h22 q22 => ?_)
      obtain ⟨rfl, rfl⟩ := q22
      obtain ⟨q23, hyp⟩ := md_ifs hyp
      refine gc_cast (r := (r22.1)) d_Tk_isRightFor_27 gw_736 rfl q23 ?_
      refine gc_astore0 (r := (r22.1)) d_Tk_isRightFor_30 (by decide) hc ?_
      replace hc := ag_cs (i := 4) (v := ag_rf (r22.1)) hc (ag_cat_rf _)
      refine gc_aload (r := ((r22.1))) d_Tk_isRightFor_32 rfl ?_
      refine ag_iload_n d_Tk_isRightFor_34 rfl ?_
      obtain ⟨a27, ea27, hyp⟩ := md_bd hyp
      obtain ⟨r27, er27, hyp⟩ := md_bd hyp
      refine gc_callv (r := ((r22.1))) (as := [.int (x2)]) d_Tk_isRightFor_35 ml_Tk_73 gw_821 rfl sl_Lk_isSignedBy ea27 (Nat.le_of_ble_eq_true rfl) (w_Lk_isSignedBy hC (d := d) (by omega) er27) (fun v27 h27 q27 => ?_)
      obtain ⟨rfl, rfl⟩ := q27
      refine ag_if_ne d_Tk_isRightFor_38 rfl (fun q => ?_) (fun q => ?_)
      · replace hyp := md_ifn q hyp
        refine gc_aload (r := ((r22.1))) d_Tk_isRightFor_43 rfl ?_
        obtain ⟨g30, eg30, hyp⟩ := md_bd hyp
        refine gc_geti (r := ((r22.1))) d_Tk_isRightFor_45 fr_Tk_66 eg30 ?_
        refine gc_istore_n d_Tk_isRightFor_48 (by decide) hc ?_
        replace hc := ag_cs (i := 2) (v := .int (g30)) hc rfl
        refine gc_iinc d_Tk_isRightFor_49 rfl (by decide) hc ?_
        replace hc := ag_cs (i := 3) (v := .int ((x3) + Int32.ofInt (1))) hc rfl
        refine ag_goto d_Tk_isRightFor_52 rfl ?_
        exact ag_dr (ag_d1 rfl (ag_d1 rfl (ag_d1 rfl ag_d0))) (ih _ _ _ _ hyp)
      · replace hyp := md_ifp q hyp
        refine ag_iconst d_Tk_isRightFor_41 ?_
        obtain ⟨q35, hyp⟩ := md_ifs hyp
        cases hyp
        exact ag_iret d_Tk_isRightFor_42 rfl (md_01n q35) ⟨rfl, rfl⟩
theorem w_Tk_isRightFor_0 {l : Launch} {G : ag_G} {d N : Nat} {C : Nat × Nat} {a : Nat} (hC : ag_cN G = C.1 ∧ ag_cS G = C.2) (hH : 2 ≤ d) {x1 : Int32} {h : ag_H} {res : (Int32) × ag_H} (hyp : fn_Tk_isRightFor_0 N C a x1 h = some res) : ag_ev gc_P l G m_Tk_isRightFor (d + 1) (ag_ret gc_P G (fun v h' => v = some (.int res.1) ∧ h' = res.2)) 0 [(0, .ref a), (1, .int (x1))] [] h := by
  unfold fn_Tk_isRightFor_0 at hyp
  have hc : ag_C1 [(0, .ref a), (1, .int (x1))] := (ag_c1 rfl (ag_c1 rfl ag_c0))
  refine ag_iload_n d_Tk_isRightFor_0 rfl ?_
  refine gc_istore_n d_Tk_isRightFor_1 (by decide) hc ?_
  replace hc := ag_cs (i := 2) (v := .int (x1)) hc rfl
  refine ag_iconst d_Tk_isRightFor_2 ?_
  refine gc_istore_n d_Tk_isRightFor_3 (by decide) hc ?_
  replace hc := ag_cs (i := 3) (v := .int (Int32.ofInt 0)) hc rfl
  exact ag_dr (ag_d1 rfl (ag_d1 rfl (ag_d1 rfl ag_d0))) (w_Tk_isRightFor_4 hC hH N _ _ _ _ hyp)
theorem w_Tk_isRightFor {l : Launch} {G : ag_G} {d N : Nat} {C : Nat × Nat} (hC : ag_cN G = C.1 ∧ ag_cS G = C.2) (hH : 2 + 1 ≤ d) {a : Nat} {p1 : Int32} {h : ag_H} {res : (Int32) × ag_H} (hyp : fn_Tk_isRightFor N C a p1 h = some res) : ag_Met gc_P l G m_Tk_isRightFor d [.ref a, .int (p1)] h (fun v h' => v = some (.int res.1) ∧ h' = res.2) := by
  obtain ⟨d, rfl, hG⟩ := md_dd hH
  exact ag_met (by decide) rfl (Nat.le_of_ble_eq_true rfl) (ag_dr (ag_d1 rfl (ag_d1 rfl ag_d0)) (w_Tk_isRightFor_0 hC hG hyp))
def fn_Fa_order_30 (N : Nat) (C : Nat × Nat) (s0 : Int32) (h : ag_H) : Option ((Int32) × ag_H) := some ((s0), h)
def fn_Fa_order_2 (N : Nat) (C : Nat × Nat) : Nat → Option Nat → Option Nat → Int32 → ag_H → Option ((Int32) × ag_H)
  | 0, _, _, _, _ => none
  | n + 1, x0, x1, x2, h => if (Int32.ofInt 5) ≤ (x2) then (some ((Int32.ofInt 0), h)) else ((ag_ai h 0 (x0)).bind fun p8 => if md_in (x2) p8.1 = true then ((ag_ai h 0 (x1)).bind fun p11 => if md_in (x2) p11.1 = true then (if (p8.2 (x2).toNatClampNeg) = (p11.2 (x2).toNatClampNeg) then (fn_Fa_order_2 N C n (x0) (x1) ((x2) + Int32.ofInt (1)) h) else ((ag_ai h 0 (x0)).bind fun p17 => if md_in (x2) p17.1 = true then ((ag_ai h 0 (x1)).bind fun p20 => if md_in (x2) p20.1 = true then (if (p20.2 (x2).toNatClampNeg) ≤ (p17.2 (x2).toNatClampNeg) then (fn_Fa_order_30 N C (Int32.ofInt 1) h) else (fn_Fa_order_30 N C (Int32.ofInt (-1)) h)) else none) else none)) else none) else none)
theorem fe_Fa_order_2 (N : Nat) (C : Nat × Nat) (n : Nat) (x0 : Option Nat) (x1 : Option Nat) (x2 : Int32) (h : ag_H) : fn_Fa_order_2 N C (n + 1) x0 x1 x2 h = (if (Int32.ofInt 5) ≤ (x2) then (some ((Int32.ofInt 0), h)) else ((ag_ai h 0 (x0)).bind fun p8 => if md_in (x2) p8.1 = true then ((ag_ai h 0 (x1)).bind fun p11 => if md_in (x2) p11.1 = true then (if (p8.2 (x2).toNatClampNeg) = (p11.2 (x2).toNatClampNeg) then (fn_Fa_order_2 N C n (x0) (x1) ((x2) + Int32.ofInt (1)) h) else ((ag_ai h 0 (x0)).bind fun p17 => if md_in (x2) p17.1 = true then ((ag_ai h 0 (x1)).bind fun p20 => if md_in (x2) p20.1 = true then (if (p20.2 (x2).toNatClampNeg) ≤ (p17.2 (x2).toNatClampNeg) then (fn_Fa_order_30 N C (Int32.ofInt 1) h) else (fn_Fa_order_30 N C (Int32.ofInt (-1)) h)) else none) else none)) else none) else none)) := rfl
def fn_Fa_order_0 (N : Nat) (C : Nat × Nat) (x0 : Option Nat) (x1 : Option Nat) (h : ag_H) : Option ((Int32) × ag_H) := fn_Fa_order_2 N C N (x0) (x1) (Int32.ofInt 0) h
def fn_Fa_order (N : Nat) (C : Nat × Nat) (p0 : Option Nat) (p1 : Option Nat) (h : ag_H) : Option ((Int32) × ag_H) := fn_Fa_order_0 N C p0 p1 h
theorem w_Fa_order_30 {l : Launch} {G : ag_G} {d N : Nat} {C : Nat × Nat} (hC : ag_cN G = C.1 ∧ ag_cS G = C.2) {s0 : Int32} {h : ag_H} {res : (Int32) × ag_H} (hyp : fn_Fa_order_30 N C s0 h = some res) : ag_ev gc_P l G m_Fa_order (d) (ag_ret gc_P G (fun v h' => v = some (.int res.1) ∧ h' = res.2)) 30 [] [.int (s0)] h := by
  unfold fn_Fa_order_30 at hyp
  have hc : ag_C1 [] := ag_c0
  cases hyp
  exact ag_iret d_Fa_order_30 rfl rfl ⟨rfl, rfl⟩
theorem w_Fa_order_2 {l : Launch} {G : ag_G} {d N : Nat} {C : Nat × Nat} (hC : ag_cN G = C.1 ∧ ag_cS G = C.2) : ∀ (n : Nat) (res : (Int32) × ag_H) (x0 : Option Nat) (x1 : Option Nat) (x2 : Int32) (h : ag_H) , fn_Fa_order_2 N C n x0 x1 x2 h = some res → ag_ev gc_P l G m_Fa_order (d) (ag_ret gc_P G (fun v h' => v = some (.int res.1) ∧ h' = res.2)) 2 [(0, ag_rf (x0)), (1, ag_rf (x1)), (2, .int (x2))] [] h := by
  intro n
  induction n with
  | zero =>
    intro res x0 x1 x2 h hyp
    cases hyp
  | succ n ih =>
    intro res x0 x1 x2 h hyp
    rw [fe_Fa_order_2] at hyp
    have hc : ag_C1 [(0, ag_rf (x0)), (1, ag_rf (x1)), (2, .int (x2))] := (ag_c1 (ag_cat_rf _) (ag_c1 (ag_cat_rf _) (ag_c1 rfl ag_c0)))
    refine ag_iload_n d_Fa_order_2 rfl ?_
    refine ag_iconst d_Fa_order_3 ?_
    refine ag_icmp_ge d_Fa_order_4 rfl (fun q => ?_) (fun q => ?_)
    · replace hyp := md_ifp q hyp
      refine ag_iconst d_Fa_order_37 ?_
      cases hyp
      exact ag_iret d_Fa_order_38 rfl rfl ⟨rfl, rfl⟩
    · replace hyp := md_ifn q hyp
      refine gc_aload_n (r := (x0)) d_Fa_order_7 rfl ?_
      refine ag_iload_n d_Fa_order_8 rfl ?_
      obtain ⟨p8, ep8, hyp⟩ := md_bd hyp
      obtain ⟨q8, hyp⟩ := md_ifs hyp
      refine gc_ild (r := (x0)) d_Fa_order_9 ep8 q8 ?_
      refine gc_aload_n (r := (x1)) d_Fa_order_10 rfl ?_
      refine ag_iload_n d_Fa_order_11 rfl ?_
      obtain ⟨p11, ep11, hyp⟩ := md_bd hyp
      obtain ⟨q11, hyp⟩ := md_ifs hyp
      refine gc_ild (r := (x1)) d_Fa_order_12 ep11 q11 ?_
      refine ag_icmp_eq d_Fa_order_13 rfl (fun q => ?_) (fun q => ?_)
      · replace hyp := md_ifp q hyp
        refine gc_iinc d_Fa_order_31 rfl (by decide) hc ?_
        replace hc := ag_cs (i := 2) (v := .int ((x2) + Int32.ofInt (1))) hc rfl
        refine ag_goto d_Fa_order_34 rfl ?_
        exact ag_dr (ag_d1 rfl (ag_d1 rfl (ag_d1 rfl ag_d0))) (ih _ _ _ _ _ hyp)
      · replace hyp := md_ifn q hyp
        refine gc_aload_n (r := (x0)) d_Fa_order_16 rfl ?_
        refine ag_iload_n d_Fa_order_17 rfl ?_
        obtain ⟨p17, ep17, hyp⟩ := md_bd hyp
        obtain ⟨q17, hyp⟩ := md_ifs hyp
        refine gc_ild (r := (x0)) d_Fa_order_18 ep17 q17 ?_
        refine gc_aload_n (r := (x1)) d_Fa_order_19 rfl ?_
        refine ag_iload_n d_Fa_order_20 rfl ?_
        obtain ⟨p20, ep20, hyp⟩ := md_bd hyp
        obtain ⟨q20, hyp⟩ := md_ifs hyp
        refine gc_ild (r := (x1)) d_Fa_order_21 ep20 q20 ?_
        refine ag_icmp_ge d_Fa_order_22 rfl (fun q => ?_) (fun q => ?_)
        · replace hyp := md_ifp q hyp
          refine ag_iconst d_Fa_order_29 ?_
          exact ag_dr ag_d0 (w_Fa_order_30 hC hyp)
        · replace hyp := md_ifn q hyp
          refine ag_iconst d_Fa_order_25 ?_
          refine ag_goto d_Fa_order_26 rfl ?_
          exact ag_dr ag_d0 (w_Fa_order_30 hC hyp)
theorem w_Fa_order_0 {l : Launch} {G : ag_G} {d N : Nat} {C : Nat × Nat} (hC : ag_cN G = C.1 ∧ ag_cS G = C.2) {x0 : Option Nat} {x1 : Option Nat} {h : ag_H} {res : (Int32) × ag_H} (hyp : fn_Fa_order_0 N C x0 x1 h = some res) : ag_ev gc_P l G m_Fa_order (d) (ag_ret gc_P G (fun v h' => v = some (.int res.1) ∧ h' = res.2)) 0 [(0, ag_rf (x0)), (1, ag_rf (x1))] [] h := by
  unfold fn_Fa_order_0 at hyp
  have hc : ag_C1 [(0, ag_rf (x0)), (1, ag_rf (x1))] := (ag_c1 (ag_cat_rf _) (ag_c1 (ag_cat_rf _) ag_c0))
  refine ag_iconst d_Fa_order_0 ?_
  refine gc_istore_n d_Fa_order_1 (by decide) hc ?_
  replace hc := ag_cs (i := 2) (v := .int (Int32.ofInt 0)) hc rfl
  exact ag_dr (ag_d1 rfl (ag_d1 rfl (ag_d1 rfl ag_d0))) (w_Fa_order_2 hC N _ _ _ _ _ hyp)
theorem w_Fa_order {l : Launch} {G : ag_G} {d N : Nat} {C : Nat × Nat} (hC : ag_cN G = C.1 ∧ ag_cS G = C.2) (hH : 0 ≤ d) {p0 : Option Nat} {p1 : Option Nat} {h : ag_H} {res : (Int32) × ag_H} (hyp : fn_Fa_order N C p0 p1 h = some res) : ag_Met gc_P l G m_Fa_order d [ag_rf (p0), ag_rf (p1)] h (fun v h' => v = some (.int res.1) ∧ h' = res.2) := by
  exact ag_met0 (by decide) rfl (ag_v1 (ag_cat_rf _) (ag_v1 (ag_cat_rf _) ag_v0)) (Nat.le_of_ble_eq_true rfl) (ag_dr (ag_d1 rfl (ag_d1 rfl ag_d0)) (w_Fa_order_0 hC hyp))
def fn_Fa_sort_72 (N : Nat) (C : Nat × Nat) (a : Nat) (k2 : Int32 → ag_H → Option ((Int32) × ag_H)) (x1 : Int32) (h : ag_H) : Option ((Int32) × ag_H) := k2 ((x1) + Int32.ofInt (1)) h
def fn_Fa_sort_12 (N : Nat) (C : Nat × Nat) (a : Nat) (k2 : Int32 → ag_H → Option ((Int32) × ag_H)) : Nat → Int32 → Int32 → ag_H → Option ((Int32) × ag_H)
  | 0, _, _, _ => none
  | n + 1, x1, x2, h => if (x2) ≤ (0) then (fn_Fa_sort_72 N C a k2 (x1) h) else ((ag_gr h (some (a)) 4 0).bind fun g4 => (ag_ao h (g4)).bind fun p8 => if md_in ((x2) - (Int32.ofInt 1)) p8.1 = true then ((ag_gr h (some (a)) 4 0).bind fun g10 => (ag_ao h (g10)).bind fun p12 => if md_in (x2) p12.1 = true then ((fn_Fa_order N C (p8.2 ((x2) - (Int32.ofInt 1)).toNatClampNeg) (p12.2 (x2).toNatClampNeg) h).bind fun r13 => if (r13.1) ≤ (0) then (fn_Fa_sort_72 N C a k2 (x1) r13.2) else ((ag_gr r13.2 (some (a)) 4 0).bind fun g16 => (ag_ao r13.2 (g16)).bind fun p18 => if md_in (x2) p18.1 = true then ((ag_gr r13.2 (some (a)) 4 0).bind fun g21 => (ag_gr r13.2 (some (a)) 4 0).bind fun g24 => (ag_ao r13.2 (g24)).bind fun p28 => if md_in ((x2) - (Int32.ofInt 1)) p28.1 = true then ((ag_asi r13.2 (g21) (x2) (p28.2 ((x2) - (Int32.ofInt 1)).toNatClampNeg)).bind fun h29 => (ag_gr h29 (some (a)) 4 0).bind fun g31 => (ag_asi h29 (g31) ((x2) - (Int32.ofInt 1)) ((p18.2 (x2).toNatClampNeg))).bind fun h36 => fn_Fa_sort_12 N C a k2 n (x1) ((x2) + Int32.ofInt (-1)) h36) else none) else none)) else none) else none)
theorem fe_Fa_sort_12 (N : Nat) (C : Nat × Nat) (a : Nat) (k2 : Int32 → ag_H → Option ((Int32) × ag_H)) (n : Nat) (x1 : Int32) (x2 : Int32) (h : ag_H) : fn_Fa_sort_12 N C a k2 (n + 1) x1 x2 h = (if (x2) ≤ (0) then (fn_Fa_sort_72 N C a k2 (x1) h) else ((ag_gr h (some (a)) 4 0).bind fun g4 => (ag_ao h (g4)).bind fun p8 => if md_in ((x2) - (Int32.ofInt 1)) p8.1 = true then ((ag_gr h (some (a)) 4 0).bind fun g10 => (ag_ao h (g10)).bind fun p12 => if md_in (x2) p12.1 = true then ((fn_Fa_order N C (p8.2 ((x2) - (Int32.ofInt 1)).toNatClampNeg) (p12.2 (x2).toNatClampNeg) h).bind fun r13 => if (r13.1) ≤ (0) then (fn_Fa_sort_72 N C a k2 (x1) r13.2) else ((ag_gr r13.2 (some (a)) 4 0).bind fun g16 => (ag_ao r13.2 (g16)).bind fun p18 => if md_in (x2) p18.1 = true then ((ag_gr r13.2 (some (a)) 4 0).bind fun g21 => (ag_gr r13.2 (some (a)) 4 0).bind fun g24 => (ag_ao r13.2 (g24)).bind fun p28 => if md_in ((x2) - (Int32.ofInt 1)) p28.1 = true then ((ag_asi r13.2 (g21) (x2) (p28.2 ((x2) - (Int32.ofInt 1)).toNatClampNeg)).bind fun h29 => (ag_gr h29 (some (a)) 4 0).bind fun g31 => (ag_asi h29 (g31) ((x2) - (Int32.ofInt 1)) ((p18.2 (x2).toNatClampNeg))).bind fun h36 => fn_Fa_sort_12 N C a k2 n (x1) ((x2) + Int32.ofInt (-1)) h36) else none) else none)) else none) else none)) := rfl
def fn_Fa_sort_2 (N : Nat) (C : Nat × Nat) (a : Nat) : Nat → Int32 → ag_H → Option ((Int32) × ag_H)
  | 0, _, _ => none
  | n + 1, x1, h => (ag_gi h (some (a)) 4 1).bind fun g3 => if (g3) ≤ (x1) then (some (0, h)) else (fn_Fa_sort_12 N C a (fn_Fa_sort_2 N C a n) N (x1) (x1) h)
theorem fe_Fa_sort_2 (N : Nat) (C : Nat × Nat) (a : Nat) (n : Nat) (x1 : Int32) (h : ag_H) : fn_Fa_sort_2 N C a (n + 1) x1 h = ((ag_gi h (some (a)) 4 1).bind fun g3 => if (g3) ≤ (x1) then (some (0, h)) else (fn_Fa_sort_12 N C a (fn_Fa_sort_2 N C a n) N (x1) (x1) h)) := rfl
def fn_Fa_sort_0 (N : Nat) (C : Nat × Nat) (a : Nat) (h : ag_H) : Option ((Int32) × ag_H) := fn_Fa_sort_2 N C a N (Int32.ofInt 1) h
def fn_Fa_sort (N : Nat) (C : Nat × Nat) (a : Nat) (h : ag_H) : Option ((Int32) × ag_H) := fn_Fa_sort_0 N C a h
theorem w_Fa_sort_72 {l : Launch} {G : ag_G} {d N : Nat} {C : Nat × Nat} {a : Nat} (hC : ag_cN G = C.1 ∧ ag_cS G = C.2) (hH : 0 ≤ d) {k2 : Int32 → ag_H → Option ((Int32) × ag_H)} (hk2 : ∀ (res : (Int32) × ag_H) (y1 : Int32) (hh : ag_H), k2 y1 hh = some res → ag_ev gc_P l G m_Fa_sort (d + 1) (ag_ret gc_P G (fun v h' => v = none ∧ h' = res.2)) 2 [(0, .ref a), (1, .int (y1))] [] hh) {x1 : Int32} {h : ag_H} {res : (Int32) × ag_H} (hyp : fn_Fa_sort_72 N C a k2 x1 h = some res) : ag_ev gc_P l G m_Fa_sort (d + 1) (ag_ret gc_P G (fun v h' => v = none ∧ h' = res.2)) 72 [(0, .ref a), (1, .int (x1))] [] h := by
  unfold fn_Fa_sort_72 at hyp
  have hc : ag_C1 [(0, .ref a), (1, .int (x1))] := (ag_c1 rfl (ag_c1 rfl ag_c0))
  refine gc_iinc d_Fa_sort_72 rfl (by decide) hc ?_
  replace hc := ag_cs (i := 1) (v := .int ((x1) + Int32.ofInt (1))) hc rfl
  refine ag_goto d_Fa_sort_75 rfl ?_
  exact ag_dr (ag_d1 rfl (ag_d1 rfl ag_d0)) (hk2 _ _ _ hyp)
theorem w_Fa_sort_12 {l : Launch} {G : ag_G} {d N : Nat} {C : Nat × Nat} {a : Nat} (hC : ag_cN G = C.1 ∧ ag_cS G = C.2) (hH : 0 ≤ d) {k2 : Int32 → ag_H → Option ((Int32) × ag_H)} (hk2 : ∀ (res : (Int32) × ag_H) (y1 : Int32) (hh : ag_H), k2 y1 hh = some res → ag_ev gc_P l G m_Fa_sort (d + 1) (ag_ret gc_P G (fun v h' => v = none ∧ h' = res.2)) 2 [(0, .ref a), (1, .int (y1))] [] hh) : ∀ (n : Nat) (res : (Int32) × ag_H) (x1 : Int32) (x2 : Int32) (h : ag_H) , fn_Fa_sort_12 N C a k2 n x1 x2 h = some res → ag_ev gc_P l G m_Fa_sort (d + 1) (ag_ret gc_P G (fun v h' => v = none ∧ h' = res.2)) 12 [(0, .ref a), (1, .int (x1)), (2, .int (x2))] [] h := by
  intro n
  induction n with
  | zero =>
    intro res x1 x2 h hyp
    cases hyp
  | succ n ih =>
    intro res x1 x2 h hyp
    rw [fe_Fa_sort_12] at hyp
    have hc : ag_C1 [(0, .ref a), (1, .int (x1)), (2, .int (x2))] := (ag_c1 rfl (ag_c1 rfl (ag_c1 rfl ag_c0)))
    refine ag_iload_n d_Fa_sort_12 rfl ?_
    refine ag_if_le d_Fa_sort_13 rfl (fun q => ?_) (fun q => ?_)
    · replace hyp := md_ifp q hyp
      exact ag_dr (ag_d1 rfl (ag_d1 rfl ag_d0)) (w_Fa_sort_72 hC hH hk2 hyp)
    · replace hyp := md_ifn q hyp
      refine gc_aload_n (r := (some (a))) d_Fa_sort_16 rfl ?_
      obtain ⟨g4, eg4, hyp⟩ := md_bd hyp
      refine gc_getr (r := (some (a))) d_Fa_sort_17 fr_Fa_13 eg4 ?_
      refine ag_iload_n d_Fa_sort_20 rfl ?_
      refine ag_iconst d_Fa_sort_21 ?_
      refine ag_isub d_Fa_sort_22 ?_
      obtain ⟨p8, ep8, hyp⟩ := md_bd hyp
      obtain ⟨q8, hyp⟩ := md_ifs hyp
      refine gc_ald (r := (g4)) d_Fa_sort_23 ep8 q8 ?_
      refine gc_aload_n (r := (some (a))) d_Fa_sort_24 rfl ?_
      obtain ⟨g10, eg10, hyp⟩ := md_bd hyp
      refine gc_getr (r := (some (a))) d_Fa_sort_25 fr_Fa_13 eg10 ?_
      refine ag_iload_n d_Fa_sort_28 rfl ?_
      obtain ⟨p12, ep12, hyp⟩ := md_bd hyp
      obtain ⟨q12, hyp⟩ := md_ifs hyp
      refine gc_ald (r := (g10)) d_Fa_sort_29 ep12 q12 ?_
      obtain ⟨r13, er13, hyp⟩ := md_bd hyp
      refine ag_calls (as := [ag_rf (p8.2 ((x2) - (Int32.ofInt 1)).toNatClampNeg), ag_rf (p12.2 (x2).toNatClampNeg)]) d_Fa_sort_30 ml_Fa_33 gw_833 (Nat.le_of_ble_eq_true rfl) (w_Fa_order hC (d := d) (by omega) er13) (fun v13 h13 q13 => ?_)
      obtain ⟨rfl, rfl⟩ := q13
      refine ag_if_le d_Fa_sort_33 rfl (fun q => ?_) (fun q => ?_)
      · replace hyp := md_ifp q hyp
        exact ag_dr (ag_d1 rfl (ag_d1 rfl ag_d0)) (w_Fa_sort_72 hC hH hk2 hyp)
      · replace hyp := md_ifn q hyp
        refine gc_aload_n (r := (some (a))) d_Fa_sort_36 rfl ?_
        obtain ⟨g16, eg16, hyp⟩ := md_bd hyp
        refine gc_getr (r := (some (a))) d_Fa_sort_37 fr_Fa_13 eg16 ?_
        refine ag_iload_n d_Fa_sort_40 rfl ?_
        obtain ⟨p18, ep18, hyp⟩ := md_bd hyp
        obtain ⟨q18, hyp⟩ := md_ifs hyp
        refine gc_ald (r := (g16)) d_Fa_sort_41 ep18 q18 ?_
        refine gc_astore0_n (r := (p18.2 (x2).toNatClampNeg)) d_Fa_sort_42 (by decide) hc ?_
        replace hc := ag_cs (i := 3) (v := ag_rf (p18.2 (x2).toNatClampNeg)) hc (ag_cat_rf _)
        refine gc_aload_n (r := (some (a))) d_Fa_sort_43 rfl ?_
        obtain ⟨g21, eg21, hyp⟩ := md_bd hyp
        refine gc_getr (r := (some (a))) d_Fa_sort_44 fr_Fa_13 eg21 ?_
        refine ag_iload_n d_Fa_sort_47 rfl ?_
        refine gc_aload_n (r := (some (a))) d_Fa_sort_48 rfl ?_
        obtain ⟨g24, eg24, hyp⟩ := md_bd hyp
        refine gc_getr (r := (some (a))) d_Fa_sort_49 fr_Fa_13 eg24 ?_
        refine ag_iload_n d_Fa_sort_52 rfl ?_
        refine ag_iconst d_Fa_sort_53 ?_
        refine ag_isub d_Fa_sort_54 ?_
        obtain ⟨p28, ep28, hyp⟩ := md_bd hyp
        obtain ⟨q28, hyp⟩ := md_ifs hyp
        refine gc_ald (r := (g24)) d_Fa_sort_55 ep28 q28 ?_
        obtain ⟨h29, eh29, hyp⟩ := md_bd hyp
        refine gc_asi (r := (g21)) (w := (p28.2 ((x2) - (Int32.ofInt 1)).toNatClampNeg)) d_Fa_sort_56 gw_88 eh29 ?_
        refine gc_aload_n (r := (some (a))) d_Fa_sort_57 rfl ?_
        obtain ⟨g31, eg31, hyp⟩ := md_bd hyp
        refine gc_getr (r := (some (a))) d_Fa_sort_58 fr_Fa_13 eg31 ?_
        refine ag_iload_n d_Fa_sort_61 rfl ?_
        refine ag_iconst d_Fa_sort_62 ?_
        refine ag_isub d_Fa_sort_63 ?_
        refine gc_aload_n (r := ((p18.2 (x2).toNatClampNeg))) d_Fa_sort_64 rfl ?_
        obtain ⟨h36, eh36, hyp⟩ := md_bd hyp
        refine gc_asi (r := (g31)) (w := ((p18.2 (x2).toNatClampNeg))) d_Fa_sort_65 gw_88 eh36 ?_
        refine gc_iinc d_Fa_sort_66 rfl (by decide) hc ?_
        replace hc := ag_cs (i := 2) (v := .int ((x2) + Int32.ofInt (-1))) hc rfl
        refine ag_goto d_Fa_sort_69 rfl ?_
        exact ag_dr (ag_d1 rfl (ag_d1 rfl (ag_d1 rfl ag_d0))) (ih _ _ _ _ hyp)
theorem w_Fa_sort_2 {l : Launch} {G : ag_G} {d N : Nat} {C : Nat × Nat} {a : Nat} (hC : ag_cN G = C.1 ∧ ag_cS G = C.2) (hH : 0 ≤ d) : ∀ (n : Nat) (res : (Int32) × ag_H) (x1 : Int32) (h : ag_H) , fn_Fa_sort_2 N C a n x1 h = some res → ag_ev gc_P l G m_Fa_sort (d + 1) (ag_ret gc_P G (fun v h' => v = none ∧ h' = res.2)) 2 [(0, .ref a), (1, .int (x1))] [] h := by
  intro n
  induction n with
  | zero =>
    intro res x1 h hyp
    cases hyp
  | succ n ih =>
    intro res x1 h hyp
    rw [fe_Fa_sort_2] at hyp
    have hc : ag_C1 [(0, .ref a), (1, .int (x1))] := (ag_c1 rfl (ag_c1 rfl ag_c0))
    refine ag_iload_n d_Fa_sort_2 rfl ?_
    refine gc_aload_n (r := (some (a))) d_Fa_sort_3 rfl ?_
    obtain ⟨g3, eg3, hyp⟩ := md_bd hyp
    refine gc_geti (r := (some (a))) d_Fa_sort_4 fr_Fa_20 eg3 ?_
    refine ag_icmp_ge d_Fa_sort_7 rfl (fun q => ?_) (fun q => ?_)
    · replace hyp := md_ifp q hyp
      cases hyp
      exact ag_vret d_Fa_sort_78 rfl ⟨rfl, rfl⟩
    · replace hyp := md_ifn q hyp
      refine ag_iload_n d_Fa_sort_10 rfl ?_
      refine gc_istore_n d_Fa_sort_11 (by decide) hc ?_
      replace hc := ag_cs (i := 2) (v := .int (x1)) hc rfl
      exact ag_dr (ag_d1 rfl (ag_d1 rfl (ag_d1 rfl ag_d0))) (w_Fa_sort_12 hC hH ih N _ _ _ _ hyp)
theorem w_Fa_sort_0 {l : Launch} {G : ag_G} {d N : Nat} {C : Nat × Nat} {a : Nat} (hC : ag_cN G = C.1 ∧ ag_cS G = C.2) (hH : 0 ≤ d) {h : ag_H} {res : (Int32) × ag_H} (hyp : fn_Fa_sort_0 N C a h = some res) : ag_ev gc_P l G m_Fa_sort (d + 1) (ag_ret gc_P G (fun v h' => v = none ∧ h' = res.2)) 0 [(0, .ref a)] [] h := by
  unfold fn_Fa_sort_0 at hyp
  have hc : ag_C1 [(0, .ref a)] := (ag_c1 rfl ag_c0)
  refine ag_iconst d_Fa_sort_0 ?_
  refine gc_istore_n d_Fa_sort_1 (by decide) hc ?_
  replace hc := ag_cs (i := 1) (v := .int (Int32.ofInt 1)) hc rfl
  exact ag_dr (ag_d1 rfl (ag_d1 rfl ag_d0)) (w_Fa_sort_2 hC hH N _ _ _ hyp)
theorem w_Fa_sort {l : Launch} {G : ag_G} {d N : Nat} {C : Nat × Nat} (hC : ag_cN G = C.1 ∧ ag_cS G = C.2) (hH : 0 + 1 ≤ d) {a : Nat} {h : ag_H} {res : (Int32) × ag_H} (hyp : fn_Fa_sort N C a h = some res) : ag_Met gc_P l G m_Fa_sort d [.ref a] h (fun v h' => v = none ∧ h' = res.2) := by
  obtain ⟨d, rfl, hG⟩ := md_dd hH
  exact ag_met (by decide) rfl (Nat.le_of_ble_eq_true rfl) (ag_dr (ag_d1 rfl ag_d0) (w_Fa_sort_0 hC hG hyp))
def fn_Jg_end_30 (N : Nat) (C : Nat × Nat) (a : Nat) (x1 : Int32) (h : ag_H) : Option ((Int32) × ag_H) := (ag_gr h (some (a)) 3 0).bind fun g2 => (ag_rc h (g2) 4).bind fun a3 => (fn_Fa_sort N C a3  h).bind fun r3 => (ag_pf r3.2 (ag_rf (some (a))) 3 3 .int (.int (x1))).bind fun h6 => some ((x1), h6)
def fn_Jg_end_19 (N : Nat) (C : Nat × Nat) (a : Nat) (x1 : Int32) (h : ag_H) : Option ((Int32) × ag_H) := if (x1) = ((Int8.ofInt (-4)).toInt32) then (fn_Jg_end_30 N C a (x1) h) else ((ag_pf h (ag_rf (some (a))) 3 5 .int (.int (Int32.ofInt 0))).bind fun h6 => fn_Jg_end_30 N C a (x1) h6)
def fn_Jg_end_11 (N : Nat) (C : Nat × Nat) (a : Nat) (x1 : Int32) (h : ag_H) : Option ((Int32) × ag_H) := (ag_gr h (some (a)) 3 0).bind fun g2 => (ag_pf h (ag_rf (g2)) 4 1 .int (.int (Int32.ofInt 0))).bind fun h4 => fn_Jg_end_19 N C a (x1) h4
def fn_Jg_end_0 (N : Nat) (C : Nat × Nat) (a : Nat) (x1 : Int32) (h : ag_H) : Option ((Int32) × ag_H) := if (x1) = (Int32.ofInt (-1)) then (fn_Jg_end_11 N C a (x1) h) else (if (x1) = ((Int8.ofInt (-2)).toInt32) then (fn_Jg_end_11 N C a (x1) h) else (fn_Jg_end_19 N C a (x1) h))
def fn_Jg_end (N : Nat) (C : Nat × Nat) (a : Nat) (p1 : Int32) (h : ag_H) : Option ((Int32) × ag_H) := fn_Jg_end_0 N C a p1 h
theorem w_Jg_end_30 {l : Launch} {G : ag_G} {d N : Nat} {C : Nat × Nat} {a : Nat} (hC : ag_cN G = C.1 ∧ ag_cS G = C.2) (hH : 1 ≤ d) {x1 : Int32} {h : ag_H} {res : (Int32) × ag_H} (hyp : fn_Jg_end_30 N C a x1 h = some res) : ag_ev gc_P l G m_Jg_end (d + 1) (ag_ret gc_P G (fun v h' => v = some (.int res.1) ∧ h' = res.2)) 30 [(0, .ref a), (1, .int (x1))] [] h := by
  unfold fn_Jg_end_30 at hyp
  have hc : ag_C1 [(0, .ref a), (1, .int (x1))] := (ag_c1 rfl (ag_c1 rfl ag_c0))
  refine gc_aload_n (r := (some (a))) d_Jg_end_30 rfl ?_
  obtain ⟨g2, eg2, hyp⟩ := md_bd hyp
  refine gc_getr (r := (some (a))) d_Jg_end_31 fr_Jg_14 eg2 ?_
  obtain ⟨a3, ea3, hyp⟩ := md_bd hyp
  obtain ⟨r3, er3, hyp⟩ := md_bd hyp
  refine gc_callv (r := (g2)) (as := []) d_Jg_end_34 ml_Jg_50 gw_829 rfl sl_Fa_sort ea3 (Nat.le_of_ble_eq_true rfl) (w_Fa_sort hC (d := d) (by omega) er3) (fun v3 h3 q3 => ?_)
  obtain ⟨rfl, rfl⟩ := q3
  refine gc_aload_n (r := (some (a))) d_Jg_end_37 rfl ?_
  refine ag_iload_n d_Jg_end_38 rfl ?_
  obtain ⟨h6, eh6, hyp⟩ := md_bd hyp
  refine gc_putf (r := (some (a))) d_Jg_end_39 fl_Jg_53 (fun q => by cases q) eh6 ?_
  refine ag_iload_n d_Jg_end_42 rfl ?_
  cases hyp
  exact ag_iret d_Jg_end_43 rfl rfl ⟨rfl, rfl⟩
theorem w_Jg_end_19 {l : Launch} {G : ag_G} {d N : Nat} {C : Nat × Nat} {a : Nat} (hC : ag_cN G = C.1 ∧ ag_cS G = C.2) (hH : 1 ≤ d) {x1 : Int32} {h : ag_H} {res : (Int32) × ag_H} (hyp : fn_Jg_end_19 N C a x1 h = some res) : ag_ev gc_P l G m_Jg_end (d + 1) (ag_ret gc_P G (fun v h' => v = some (.int res.1) ∧ h' = res.2)) 19 [(0, .ref a), (1, .int (x1))] [] h := by
  unfold fn_Jg_end_19 at hyp
  have hc : ag_C1 [(0, .ref a), (1, .int (x1))] := (ag_c1 rfl (ag_c1 rfl ag_c0))
  refine ag_iload_n d_Jg_end_19 rfl ?_
  refine ag_bipush d_Jg_end_20 ?_
  refine ag_icmp_eq d_Jg_end_22 rfl (fun q => ?_) (fun q => ?_)
  · replace hyp := md_ifp q hyp
    exact ag_dr (ag_d1 rfl (ag_d1 rfl ag_d0)) (w_Jg_end_30 hC hH hyp)
  · replace hyp := md_ifn q hyp
    refine gc_aload_n (r := (some (a))) d_Jg_end_25 rfl ?_
    refine ag_iconst d_Jg_end_26 ?_
    obtain ⟨h6, eh6, hyp⟩ := md_bd hyp
    refine gc_putf (r := (some (a))) d_Jg_end_27 fl_Jg_44 (fun q => by cases q) eh6 ?_
    exact ag_dr (ag_d1 rfl (ag_d1 rfl ag_d0)) (w_Jg_end_30 hC hH hyp)
theorem w_Jg_end_11 {l : Launch} {G : ag_G} {d N : Nat} {C : Nat × Nat} {a : Nat} (hC : ag_cN G = C.1 ∧ ag_cS G = C.2) (hH : 1 ≤ d) {x1 : Int32} {h : ag_H} {res : (Int32) × ag_H} (hyp : fn_Jg_end_11 N C a x1 h = some res) : ag_ev gc_P l G m_Jg_end (d + 1) (ag_ret gc_P G (fun v h' => v = some (.int res.1) ∧ h' = res.2)) 11 [(0, .ref a), (1, .int (x1))] [] h := by
  unfold fn_Jg_end_11 at hyp
  have hc : ag_C1 [(0, .ref a), (1, .int (x1))] := (ag_c1 rfl (ag_c1 rfl ag_c0))
  refine gc_aload_n (r := (some (a))) d_Jg_end_11 rfl ?_
  obtain ⟨g2, eg2, hyp⟩ := md_bd hyp
  refine gc_getr (r := (some (a))) d_Jg_end_12 fr_Jg_14 eg2 ?_
  refine ag_iconst d_Jg_end_15 ?_
  obtain ⟨h4, eh4, hyp⟩ := md_bd hyp
  refine gc_putf (r := (g2)) d_Jg_end_16 fl_Jg_47 (fun q => by cases q) eh4 ?_
  exact ag_dr (ag_d1 rfl (ag_d1 rfl ag_d0)) (w_Jg_end_19 hC hH hyp)
theorem w_Jg_end_0 {l : Launch} {G : ag_G} {d N : Nat} {C : Nat × Nat} {a : Nat} (hC : ag_cN G = C.1 ∧ ag_cS G = C.2) (hH : 1 ≤ d) {x1 : Int32} {h : ag_H} {res : (Int32) × ag_H} (hyp : fn_Jg_end_0 N C a x1 h = some res) : ag_ev gc_P l G m_Jg_end (d + 1) (ag_ret gc_P G (fun v h' => v = some (.int res.1) ∧ h' = res.2)) 0 [(0, .ref a), (1, .int (x1))] [] h := by
  unfold fn_Jg_end_0 at hyp
  have hc : ag_C1 [(0, .ref a), (1, .int (x1))] := (ag_c1 rfl (ag_c1 rfl ag_c0))
  refine ag_iload_n d_Jg_end_0 rfl ?_
  refine ag_iconst d_Jg_end_1 ?_
  refine ag_icmp_eq d_Jg_end_2 rfl (fun q => ?_) (fun q => ?_)
  · replace hyp := md_ifp q hyp
    exact ag_dr (ag_d1 rfl (ag_d1 rfl ag_d0)) (w_Jg_end_11 hC hH hyp)
  · replace hyp := md_ifn q hyp
    refine ag_iload_n d_Jg_end_5 rfl ?_
    refine ag_bipush d_Jg_end_6 ?_
    refine ag_icmp_ne d_Jg_end_8 rfl (fun q => ?_) (fun q => ?_)
    · replace hyp := md_ifn q hyp
      exact ag_dr (ag_d1 rfl (ag_d1 rfl ag_d0)) (w_Jg_end_19 hC hH hyp)
    · replace hyp := md_ifp q hyp
      exact ag_dr (ag_d1 rfl (ag_d1 rfl ag_d0)) (w_Jg_end_11 hC hH hyp)
theorem w_Jg_end {l : Launch} {G : ag_G} {d N : Nat} {C : Nat × Nat} (hC : ag_cN G = C.1 ∧ ag_cS G = C.2) (hH : 1 + 1 ≤ d) {a : Nat} {p1 : Int32} {h : ag_H} {res : (Int32) × ag_H} (hyp : fn_Jg_end N C a p1 h = some res) : ag_Met gc_P l G m_Jg_end d [.ref a, .int (p1)] h (fun v h' => v = some (.int res.1) ∧ h' = res.2) := by
  obtain ⟨d, rfl, hG⟩ := md_dd hH
  exact ag_met (by decide) rfl (Nat.le_of_ble_eq_true rfl) (ag_dr (ag_d1 rfl (ag_d1 rfl ag_d0)) (w_Jg_end_0 hC hG hyp))
