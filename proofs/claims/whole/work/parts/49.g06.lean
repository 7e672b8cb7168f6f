/-! Jg_fit, Jg_bind, Jg_search, Jg_makeRound, Jg_settle, Jg_lookAtChecks, Jg_lookAtPolicies, Jg_verdict -/
def fn_Jg_fit_33 (N : Nat) (C : Nat × Nat) (a : Nat) (h : ag_H) : Option ((Int32) × ag_H) := some ((Int32.ofInt (-1)), h)
def fn_Jg_fit_72 (N : Nat) (C : Nat × Nat) (a : Nat) (s0 : Int32) (h : ag_H) : Option ((Int32) × ag_H) := some ((s0), h)
def fn_Jg_fit_0 (N : Nat) (C : Nat × Nat) (a : Nat) (x1 : Option Nat) (x2 : Option Nat) (x3 : Int32) (h : ag_H) : Option ((Int32) × ag_H) := (ag_ai h 0 (x2)).bind fun p3 => if md_in (Int32.ofInt 0) p3.1 = true then ((ag_gi h (x1) 6 0).bind fun g5 => if (p3.2 (Int32.ofInt 0).toNatClampNeg) = (g5) then ((ag_ai h 0 (x2)).bind fun p9 => if md_in (Int32.ofInt 1) p9.1 = true then ((ag_gi h (x1) 6 1).bind fun g11 => if (p9.2 (Int32.ofInt 1).toNatClampNeg) = (g11) then ((ag_ai h 0 (x2)).bind fun p15 => if md_in (Int32.ofInt 4) p15.1 = true then ((ag_gi h (some (a)) 3 10).bind fun g17 => if ((p15.2 (Int32.ofInt 4).toNatClampNeg) &&& ((g17) ^^^ (Int32.ofInt (-1)))) = (0) then ((ag_gi h (x1) 6 2).bind fun g24 => (ag_ai h 0 (x2)).bind fun p27 => if md_in (Int32.ofInt 2) p27.1 = true then ((ag_rc h (some (a)) 3).bind fun a29 => (fn_Jg_fitTerm N C a29 (g24) (p27.2 (Int32.ofInt 2).toNatClampNeg) (x3) h).bind fun r29 => if (r29.1) = (Int32.ofInt (-1)) then (fn_Jg_fit_72 N C a (Int32.ofInt (-1)) r29.2) else ((ag_gi r29.2 (x1) 6 3).bind fun g36 => (ag_ai r29.2 0 (x2)).bind fun p39 => if md_in (Int32.ofInt 3) p39.1 = true then ((ag_rc r29.2 (some (a)) 3).bind fun a41 => (fn_Jg_fitTerm N C a41 (g36) (p39.2 (Int32.ofInt 3).toNatClampNeg) (r29.1) r29.2).bind fun r41 => fn_Jg_fit_72 N C a (r41.1) r41.2) else none)) else none) else (fn_Jg_fit_33 N C a  h)) else none) else (fn_Jg_fit_33 N C a  h)) else none) else (fn_Jg_fit_33 N C a  h)) else none
def fn_Jg_fit (N : Nat) (C : Nat × Nat) (a : Nat) (p1 : Option Nat) (p2 : Option Nat) (p3 : Int32) (h : ag_H) : Option ((Int32) × ag_H) := fn_Jg_fit_0 N C a p1 p2 p3 h
theorem w_Jg_fit_33 {l : Launch} {G : ag_G} {d N : Nat} {C : Nat × Nat} {a : Nat} (hC : ag_cN G = C.1 ∧ ag_cS G = C.2) (hH : 1 ≤ d) {h : ag_H} {res : (Int32) × ag_H} (hyp : fn_Jg_fit_33 N C a h = some res) : ag_ev gc_P l G m_Jg_fit (d + 1) (ag_ret gc_P G (fun v h' => v = some (.int res.1) ∧ h' = res.2)) 33 [(0, .ref a)] [] h := by
  unfold fn_Jg_fit_33 at hyp
  have hc : ag_C1 [(0, .ref a)] := (ag_c1 rfl ag_c0)
  refine ag_iconst d_Jg_fit_33 ?_
  cases hyp
  exact ag_iret d_Jg_fit_34 rfl rfl ⟨rfl, rfl⟩
theorem w_Jg_fit_72 {l : Launch} {G : ag_G} {d N : Nat} {C : Nat × Nat} {a : Nat} (hC : ag_cN G = C.1 ∧ ag_cS G = C.2) (hH : 1 ≤ d) {s0 : Int32} {h : ag_H} {res : (Int32) × ag_H} (hyp : fn_Jg_fit_72 N C a s0 h = some res) : ag_ev gc_P l G m_Jg_fit (d + 1) (ag_ret gc_P G (fun v h' => v = some (.int res.1) ∧ h' = res.2)) 72 [(0, .ref a)] [.int (s0)] h := by
  unfold fn_Jg_fit_72 at hyp
  have hc : ag_C1 [(0, .ref a)] := (ag_c1 rfl ag_c0)
  cases hyp
  exact ag_iret d_Jg_fit_72 rfl rfl ⟨rfl, rfl⟩
theorem w_Jg_fit_0 {l : Launch} {G : ag_G} {d N : Nat} {C : Nat × Nat} {a : Nat} (hC : ag_cN G = C.1 ∧ ag_cS G = C.2) (hH : 1 ≤ d) {x1 : Option Nat} {x2 : Option Nat} {x3 : Int32} {h : ag_H} {res : (Int32) × ag_H} (hyp : fn_Jg_fit_0 N C a x1 x2 x3 h = some res) : ag_ev gc_P l G m_Jg_fit (d + 1) (ag_ret gc_P G (fun v h' => v = some (.int res.1) ∧ h' = res.2)) 0 [(0, .ref a), (1, ag_rf (x1)), (2, ag_rf (x2)), (3, .int (x3))] [] h := by
  unfold fn_Jg_fit_0 at hyp
  have hc : ag_C1 [(0, .ref a), (1, ag_rf (x1)), (2, ag_rf (x2)), (3, .int (x3))] := (ag_c1 rfl (ag_c1 (ag_cat_rf _) (ag_c1 (ag_cat_rf _) (ag_c1 rfl ag_c0))))
  refine gc_aload_n (r := (x2)) d_Jg_fit_0 rfl ?_
  refine ag_iconst d_Jg_fit_1 ?_
  obtain ⟨p3, ep3, hyp⟩ := md_bd hyp
  obtain ⟨q3, hyp⟩ := md_ifs hyp
  refine gc_ild (r := (x2)) d_Jg_fit_2 ep3 q3 ?_
  refine gc_aload_n (r := (x1)) d_Jg_fit_3 rfl ?_
  obtain ⟨g5, eg5, hyp⟩ := md_bd hyp
  refine gc_geti (r := (x1)) d_Jg_fit_4 fr_Jg_161 eg5 ?_
  refine ag_icmp_ne d_Jg_fit_7 rfl (fun q => ?_) (fun q => ?_)
  · replace hyp := md_ifn q hyp
    exact ag_dr (ag_d1 rfl ag_d0) (w_Jg_fit_33 hC hH hyp)
  · replace hyp := md_ifp q hyp
    refine gc_aload_n (r := (x2)) d_Jg_fit_10 rfl ?_
    refine ag_iconst d_Jg_fit_11 ?_
    obtain ⟨p9, ep9, hyp⟩ := md_bd hyp
    obtain ⟨q9, hyp⟩ := md_ifs hyp
    refine gc_ild (r := (x2)) d_Jg_fit_12 ep9 q9 ?_
    refine gc_aload_n (r := (x1)) d_Jg_fit_13 rfl ?_
    obtain ⟨g11, eg11, hyp⟩ := md_bd hyp
    refine gc_geti (r := (x1)) d_Jg_fit_14 fr_Jg_164 eg11 ?_
    refine ag_icmp_ne d_Jg_fit_17 rfl (fun q => ?_) (fun q => ?_)
    · replace hyp := md_ifn q hyp
      exact ag_dr (ag_d1 rfl ag_d0) (w_Jg_fit_33 hC hH hyp)
    · replace hyp := md_ifp q hyp
      refine gc_aload_n (r := (x2)) d_Jg_fit_20 rfl ?_
      refine ag_iconst d_Jg_fit_21 ?_
      obtain ⟨p15, ep15, hyp⟩ := md_bd hyp
      obtain ⟨q15, hyp⟩ := md_ifs hyp
      refine gc_ild (r := (x2)) d_Jg_fit_22 ep15 q15 ?_
      refine gc_aload_n (r := (some (a))) d_Jg_fit_23 rfl ?_
      obtain ⟨g17, eg17, hyp⟩ := md_bd hyp
      refine gc_geti (r := (some (a))) d_Jg_fit_24 fr_Jg_129 eg17 ?_
      refine ag_iconst d_Jg_fit_27 ?_
      refine ag_ixor d_Jg_fit_28 ?_
      refine ag_iand d_Jg_fit_29 ?_
      refine ag_if_eq d_Jg_fit_30 rfl (fun q => ?_) (fun q => ?_)
      · replace hyp := md_ifp q hyp
        refine gc_aload_n (r := (some (a))) d_Jg_fit_35 rfl ?_
        refine gc_aload_n (r := (x1)) d_Jg_fit_36 rfl ?_
        obtain ⟨g24, eg24, hyp⟩ := md_bd hyp
        refine gc_geti (r := (x1)) d_Jg_fit_37 fr_Jg_101 eg24 ?_
        refine gc_aload_n (r := (x2)) d_Jg_fit_40 rfl ?_
        refine ag_iconst d_Jg_fit_41 ?_
        obtain ⟨p27, ep27, hyp⟩ := md_bd hyp
        obtain ⟨q27, hyp⟩ := md_ifs hyp
        refine gc_ild (r := (x2)) d_Jg_fit_42 ep27 q27 ?_
        refine ag_iload_n d_Jg_fit_43 rfl ?_
        obtain ⟨a29, ea29, hyp⟩ := md_bd hyp
        obtain ⟨r29, er29, hyp⟩ := md_bd hyp
        refine gc_callv (r := (some (a))) (as := [.int (g24), .int (p27.2 (Int32.ofInt 2).toNatClampNeg), .int (x3)]) d_Jg_fit_44 ml_Jg_165 gw_898 rfl sl_Jg_fitTerm ea29 (Nat.le_of_ble_eq_true rfl) (w_Jg_fitTerm hC (d := d) (by omega) er29) (fun v29 h29 q29 => ?_)
        obtain ⟨rfl, rfl⟩ := q29
        refine gc_istore d_Jg_fit_47 (by decide) hc ?_
        replace hc := ag_cs (i := 4) (v := .int (r29.1)) hc rfl
        refine ag_iload d_Jg_fit_49 rfl ?_
        refine ag_iconst d_Jg_fit_51 ?_
        refine ag_icmp_ne d_Jg_fit_52 rfl (fun q => ?_) (fun q => ?_)
        · replace hyp := md_ifn q hyp
          refine gc_aload_n (r := (some (a))) d_Jg_fit_59 rfl ?_
          refine gc_aload_n (r := (x1)) d_Jg_fit_60 rfl ?_
          obtain ⟨g36, eg36, hyp⟩ := md_bd hyp
          refine gc_geti (r := (x1)) d_Jg_fit_61 fr_Jg_106 eg36 ?_
          refine gc_aload_n (r := (x2)) d_Jg_fit_64 rfl ?_
          refine ag_iconst d_Jg_fit_65 ?_
          obtain ⟨p39, ep39, hyp⟩ := md_bd hyp
          obtain ⟨q39, hyp⟩ := md_ifs hyp
          refine gc_ild (r := (x2)) d_Jg_fit_66 ep39 q39 ?_
          refine ag_iload d_Jg_fit_67 rfl ?_
          obtain ⟨a41, ea41, hyp⟩ := md_bd hyp
          obtain ⟨r41, er41, hyp⟩ := md_bd hyp
          refine gc_callv (r := (some (a))) (as := [.int (g36), .int (p39.2 (Int32.ofInt 3).toNatClampNeg), .int (r29.1)]) d_Jg_fit_69 ml_Jg_165 gw_898 rfl sl_Jg_fitTerm ea41 (Nat.le_of_ble_eq_true rfl) (w_Jg_fitTerm hC (d := d) (by omega) er41) (fun v41 h41 q41 => ?_)
          obtain ⟨rfl, rfl⟩ := q41
          exact ag_dr (ag_d1 rfl ag_d0) (w_Jg_fit_72 hC hH hyp)
        · replace hyp := md_ifp q hyp
          refine ag_iconst d_Jg_fit_55 ?_
          refine ag_goto d_Jg_fit_56 rfl ?_
          exact ag_dr (ag_d1 rfl ag_d0) (w_Jg_fit_72 hC hH hyp)
      · replace hyp := md_ifn q hyp
        exact ag_dr (ag_d1 rfl ag_d0) (w_Jg_fit_33 hC hH hyp)
theorem w_Jg_fit {l : Launch} {G : ag_G} {d N : Nat} {C : Nat × Nat} (hC : ag_cN G = C.1 ∧ ag_cS G = C.2) (hH : 1 + 1 ≤ d) {a : Nat} {p1 : Option Nat} {p2 : Option Nat} {p3 : Int32} {h : ag_H} {res : (Int32) × ag_H} (hyp : fn_Jg_fit N C a p1 p2 p3 h = some res) : ag_Met gc_P l G m_Jg_fit d [.ref a, ag_rf (p1), ag_rf (p2), .int (p3)] h (fun v h' => v = some (.int res.1) ∧ h' = res.2) := by
  obtain ⟨d, rfl, hG⟩ := md_dd hH
  exact ag_met0 (by decide) rfl (ag_v1 rfl (ag_v1 (ag_cat_rf _) (ag_v1 (ag_cat_rf _) (ag_v1 rfl ag_v0)))) (Nat.le_of_ble_eq_true rfl) (ag_dr (ag_d1 rfl (ag_d1 rfl (ag_d1 rfl (ag_d1 rfl ag_d0)))) (w_Jg_fit_0 hC hG hyp))
def fn_Jg_bind_110 (N : Nat) (C : Nat × Nat) (kR : Nat → Option Nat → Int32 → Int32 → Int32 → ag_H → Option ((Int32) × ag_H)) (a : Nat) (h : ag_H) : Option ((Int32) × ag_H) := some (0, h)
def fn_Jg_bind_104 (N : Nat) (C : Nat × Nat) (kR : Nat → Option Nat → Int32 → Int32 → Int32 → ag_H → Option ((Int32) × ag_H)) (a : Nat) (k39 : Option Nat → Int32 → Int32 → Int32 → Option Nat → Int32 → ag_H → Option ((Int32) × ag_H)) (x1 : Option Nat) (x2 : Int32) (x3 : Int32) (x4 : Int32) (x5 : Option Nat) (x6 : Int32) (h : ag_H) : Option ((Int32) × ag_H) := k39 (x1) (x2) (x3) (x4) (x5) ((x6) + Int32.ofInt (1)) h
def fn_Jg_bind_39 (N : Nat) (C : Nat × Nat) (kR : Nat → Option Nat → Int32 → Int32 → Int32 → ag_H → Option ((Int32) × ag_H)) (a : Nat) : Nat → Option Nat → Int32 → Int32 → Int32 → Option Nat → Int32 → ag_H → Option ((Int32) × ag_H)
  | 0, _, _, _, _, _, _, _ => none
  | n + 1, x1, x2, x3, x4, x5, x6, h => (ag_gi h (some (a)) 3 8).bind fun g3 => if (g3) ≤ (x6) then (fn_Jg_bind_110 N C kR a  h) else ((ag_gr h (some (a)) 3 0).bind fun g6 => (ag_gi h (g6) 4 2).bind fun g7 => if (g7) = (0) then ((ag_gr h (some (a)) 3 0).bind fun g10 => (ag_gr h (g10) 4 0).bind fun g11 => (ag_ao h (g11)).bind fun p13 => if md_in (x6) p13.1 = true then ((ag_rc h (some (a)) 3).bind fun a19 => (fn_Jg_fit N C a19 (x5) ((p13.2 (x6).toNatClampNeg)) (x3) h).bind fun r19 => if (r19.1) = (Int32.ofInt (-1)) then (fn_Jg_bind_104 N C kR a (fn_Jg_bind_39 N C kR a n) (x1) (x2) (x3) (x4) (x5) (x6) r19.2) else ((ag_ai r19.2 0 ((p13.2 (x6).toNatClampNeg))).bind fun p33 => if md_in (Int32.ofInt 4) p33.1 = true then ((ag_rc r19.2 (some (a)) 3).bind fun a35 => (kR a35 (x1) ((x2) + (Int32.ofInt 1)) (r19.1) ((x4) ||| (p33.2 (Int32.ofInt 4).toNatClampNeg)) r19.2).bind fun r35 => fn_Jg_bind_104 N C kR a (fn_Jg_bind_39 N C kR a n) (x1) (x2) (x3) (x4) (x5) (x6) r35.2) else none)) else none) else (fn_Jg_bind_110 N C kR a  h))
theorem fe_Jg_bind_39 (N : Nat) (C : Nat × Nat) (kR : Nat → Option Nat → Int32 → Int32 → Int32 → ag_H → Option ((Int32) × ag_H)) (a : Nat) (n : Nat) (x1 : Option Nat) (x2 : Int32) (x3 : Int32) (x4 : Int32) (x5 : Option Nat) (x6 : Int32) (h : ag_H) : fn_Jg_bind_39 N C kR a (n + 1) x1 x2 x3 x4 x5 x6 h = ((ag_gi h (some (a)) 3 8).bind fun g3 => if (g3) ≤ (x6) then (fn_Jg_bind_110 N C kR a  h) else ((ag_gr h (some (a)) 3 0).bind fun g6 => (ag_gi h (g6) 4 2).bind fun g7 => if (g7) = (0) then ((ag_gr h (some (a)) 3 0).bind fun g10 => (ag_gr h (g10) 4 0).bind fun g11 => (ag_ao h (g11)).bind fun p13 => if md_in (x6) p13.1 = true then ((ag_rc h (some (a)) 3).bind fun a19 => (fn_Jg_fit N C a19 (x5) ((p13.2 (x6).toNatClampNeg)) (x3) h).bind fun r19 => if (r19.1) = (Int32.ofInt (-1)) then (fn_Jg_bind_104 N C kR a (fn_Jg_bind_39 N C kR a n) (x1) (x2) (x3) (x4) (x5) (x6) r19.2) else ((ag_ai r19.2 0 ((p13.2 (x6).toNatClampNeg))).bind fun p33 => if md_in (Int32.ofInt 4) p33.1 = true then ((ag_rc r19.2 (some (a)) 3).bind fun a35 => (kR a35 (x1) ((x2) + (Int32.ofInt 1)) (r19.1) ((x4) ||| (p33.2 (Int32.ofInt 4).toNatClampNeg)) r19.2).bind fun r35 => fn_Jg_bind_104 N C kR a (fn_Jg_bind_39 N C kR a n) (x1) (x2) (x3) (x4) (x5) (x6) r35.2) else none)) else none) else (fn_Jg_bind_110 N C kR a  h))) := rfl
def fn_Jg_bind_0 (N : Nat) (C : Nat × Nat) (kR : Nat → Option Nat → Int32 → Int32 → Int32 → ag_H → Option ((Int32) × ag_H)) (a : Nat) (x1 : Option Nat) (x2 : Int32) (x3 : Int32) (x4 : Int32) (h : ag_H) : Option ((Int32) × ag_H) := (ag_gr h (x1) 7 3).bind fun g3 => (ag_rc h (g3) 11).bind fun a4 => (fn_AL_size N C a4  h).bind fun r4 => if (x2) < (r4.1) then ((ag_gr r4.2 (x1) 7 3).bind fun g7 => (ag_rc r4.2 (g7) 11).bind fun a9 => (fn_AL_get N C a9 (x2) r4.2).bind fun r9 => if ag_ck r9.2 (r9.1) 6 = true then (fn_Jg_bind_39 N C kR a N (x1) (x2) (x3) (x4) ((r9.1)) (Int32.ofInt 0) r9.2) else none) else ((ag_rc r4.2 (some (a)) 3).bind fun a17 => (fn_Jg_finish N C a17 (x1) (x4) r4.2).bind fun r17 => some (0, r17.2))
def fn_Jg_bind (N : Nat) (C : Nat × Nat) (kR : Nat → Option Nat → Int32 → Int32 → Int32 → ag_H → Option ((Int32) × ag_H)) (a : Nat) (p1 : Option Nat) (p2 : Int32) (p3 : Int32) (p4 : Int32) (h : ag_H) : Option ((Int32) × ag_H) := fn_Jg_bind_0 N C kR a p1 p2 p3 p4 h
theorem w_Jg_bind_110 {l : Launch} {G : ag_G} {d N Hk : Nat} {C : Nat × Nat} {a : Nat} {kR : Nat → Option Nat → Int32 → Int32 → Int32 → ag_H → Option ((Int32) × ag_H)} (hC : ag_cN G = C.1 ∧ ag_cS G = C.2) (hkR : ∀ (dk : Nat), Hk ≤ dk → ∀ (ua : Nat) (u0 : Option Nat) (u1 : Int32) (u2 : Int32) (u3 : Int32) (hh : ag_H) (res : (Int32) × ag_H), kR ua u0 u1 u2 u3 hh = some res → ag_Met gc_P l G m_Jg_bind dk [.ref ua, ag_rf u0, .int u1, .int u2, .int u3] hh (fun v h' => v = none ∧ h' = res.2)) (hH : Hk + 2 ≤ d) {h : ag_H} {res : (Int32) × ag_H} (hyp : fn_Jg_bind_110 N C kR a h = some res) : ag_ev gc_P l G m_Jg_bind (d + 1) (ag_ret gc_P G (fun v h' => v = none ∧ h' = res.2)) 110 [(0, .ref a)] [] h := by
  unfold fn_Jg_bind_110 at hyp
  have hc : ag_C1 [(0, .ref a)] := (ag_c1 rfl ag_c0)
  cases hyp
  exact ag_vret d_Jg_bind_110 rfl ⟨rfl, rfl⟩
theorem w_Jg_bind_104 {l : Launch} {G : ag_G} {d N Hk : Nat} {C : Nat × Nat} {a : Nat} {kR : Nat → Option Nat → Int32 → Int32 → Int32 → ag_H → Option ((Int32) × ag_H)} (hC : ag_cN G = C.1 ∧ ag_cS G = C.2) (hkR : ∀ (dk : Nat), Hk ≤ dk → ∀ (ua : Nat) (u0 : Option Nat) (u1 : Int32) (u2 : Int32) (u3 : Int32) (hh : ag_H) (res : (Int32) × ag_H), kR ua u0 u1 u2 u3 hh = some res → ag_Met gc_P l G m_Jg_bind dk [.ref ua, ag_rf u0, .int u1, .int u2, .int u3] hh (fun v h' => v = none ∧ h' = res.2)) (hH : Hk + 2 ≤ d) {k39 : Option Nat → Int32 → Int32 → Int32 → Option Nat → Int32 → ag_H → Option ((Int32) × ag_H)} (hk39 : ∀ (res : (Int32) × ag_H) (y1 : Option Nat) (y2 : Int32) (y3 : Int32) (y4 : Int32) (y5 : Option Nat) (y6 : Int32) (hh : ag_H), k39 y1 y2 y3 y4 y5 y6 hh = some res → ag_ev gc_P l G m_Jg_bind (d + 1) (ag_ret gc_P G (fun v h' => v = none ∧ h' = res.2)) 39 [(0, .ref a), (1, ag_rf (y1)), (2, .int (y2)), (3, .int (y3)), (4, .int (y4)), (5, ag_rf (y5)), (6, .int (y6))] [] hh) {x1 : Option Nat} {x2 : Int32} {x3 : Int32} {x4 : Int32} {x5 : Option Nat} {x6 : Int32} {h : ag_H} {res : (Int32) × ag_H} (hyp : fn_Jg_bind_104 N C kR a k39 x1 x2 x3 x4 x5 x6 h = some res) : ag_ev gc_P l G m_Jg_bind (d + 1) (ag_ret gc_P G (fun v h' => v = none ∧ h' = res.2)) 104 [(0, .ref a), (1, ag_rf (x1)), (2, .int (x2)), (3, .int (x3)), (4, .int (x4)), (5, ag_rf (x5)), (6, .int (x6))] [] h := by
  unfold fn_Jg_bind_104 at hyp
  have hc : ag_C1 [(0, .ref a), (1, ag_rf (x1)), (2, .int (x2)), (3, .int (x3)), (4, .int (x4)), (5, ag_rf (x5)), (6, .int (x6))] := (ag_c1 rfl (ag_c1 (ag_cat_rf _) (ag_c1 rfl (ag_c1 rfl (ag_c1 rfl (ag_c1 (ag_cat_rf _) (ag_c1 rfl ag_c0)))))))
  refine gc_iinc d_Jg_bind_104 rfl (by decide) hc ?_
  replace hc := ag_cs (i := 6) (v := .int ((x6) + Int32.ofInt (1))) hc rfl
  refine ag_goto d_Jg_bind_107 rfl ?_
  exact ag_dr (ag_d1 rfl (ag_d1 rfl (ag_d1 rfl (ag_d1 rfl (ag_d1 rfl (ag_d1 rfl (ag_d1 rfl ag_d0))))))) (hk39 _ _ _ _ _ _ _ _ hyp)
theorem w_Jg_bind_39 {l : Launch} {G : ag_G} {d N Hk : Nat} {C : Nat × Nat} {a : Nat} {kR : Nat → Option Nat → Int32 → Int32 → Int32 → ag_H → Option ((Int32) × ag_H)} (hC : ag_cN G = C.1 ∧ ag_cS G = C.2) (hkR : ∀ (dk : Nat), Hk ≤ dk → ∀ (ua : Nat) (u0 : Option Nat) (u1 : Int32) (u2 : Int32) (u3 : Int32) (hh : ag_H) (res : (Int32) × ag_H), kR ua u0 u1 u2 u3 hh = some res → ag_Met gc_P l G m_Jg_bind dk [.ref ua, ag_rf u0, .int u1, .int u2, .int u3] hh (fun v h' => v = none ∧ h' = res.2)) (hH : Hk + 2 ≤ d) : ∀ (n : Nat) (res : (Int32) × ag_H) (x1 : Option Nat) (x2 : Int32) (x3 : Int32) (x4 : Int32) (x5 : Option Nat) (x6 : Int32) (h : ag_H) , fn_Jg_bind_39 N C kR a n x1 x2 x3 x4 x5 x6 h = some res → ag_ev gc_P l G m_Jg_bind (d + 1) (ag_ret gc_P G (fun v h' => v = none ∧ h' = res.2)) 39 [(0, .ref a), (1, ag_rf (x1)), (2, .int (x2)), (3, .int (x3)), (4, .int (x4)), (5, ag_rf (x5)), (6, .int (x6))] [] h := by
  intro n
  induction n with
  | zero =>
    intro res x1 x2 x3 x4 x5 x6 h hyp
    cases hyp
  | succ n ih =>
    intro res x1 x2 x3 x4 x5 x6 h hyp
    rw [fe_Jg_bind_39] at hyp
    have hc : ag_C1 [(0, .ref a), (1, ag_rf (x1)), (2, .int (x2)), (3, .int (x3)), (4, .int (x4)), (5, ag_rf (x5)), (6, .int (x6))] := (ag_c1 rfl (ag_c1 (ag_cat_rf _) (ag_c1 rfl (ag_c1 rfl (ag_c1 rfl (ag_c1 (ag_cat_rf _) (ag_c1 rfl ag_c0)))))))
    refine ag_iload d_Jg_bind_39 rfl ?_
    refine gc_aload_n (r := (some (a))) d_Jg_bind_41 rfl ?_
    obtain ⟨g3, eg3, hyp⟩ := md_bd hyp
    refine gc_geti (r := (some (a))) d_Jg_bind_42 fr_Jg_66 eg3 ?_
    refine ag_icmp_ge d_Jg_bind_45 rfl (fun q => ?_) (fun q => ?_)
    · replace hyp := md_ifp q hyp
      exact ag_dr (ag_d1 rfl ag_d0) (w_Jg_bind_110 hC hkR hH hyp)
    · replace hyp := md_ifn q hyp
      refine gc_aload_n (r := (some (a))) d_Jg_bind_48 rfl ?_
      obtain ⟨g6, eg6, hyp⟩ := md_bd hyp
      refine gc_getr (r := (some (a))) d_Jg_bind_49 fr_Jg_14 eg6 ?_
      obtain ⟨g7, eg7, hyp⟩ := md_bd hyp
      refine gc_geti (r := (g6)) d_Jg_bind_52 fr_Jg_59 eg7 ?_
      refine ag_if_ne d_Jg_bind_55 rfl (fun q => ?_) (fun q => ?_)
      · replace hyp := md_ifn q hyp
        exact ag_dr (ag_d1 rfl ag_d0) (w_Jg_bind_110 hC hkR hH hyp)
      · replace hyp := md_ifp q hyp
        refine gc_aload_n (r := (some (a))) d_Jg_bind_58 rfl ?_
        obtain ⟨g10, eg10, hyp⟩ := md_bd hyp
        refine gc_getr (r := (some (a))) d_Jg_bind_59 fr_Jg_14 eg10 ?_
        obtain ⟨g11, eg11, hyp⟩ := md_bd hyp
        refine gc_getr (r := (g10)) d_Jg_bind_62 fr_Jg_142 eg11 ?_
        refine ag_iload d_Jg_bind_65 rfl ?_
        obtain ⟨p13, ep13, hyp⟩ := md_bd hyp
        obtain ⟨q13, hyp⟩ := md_ifs hyp
        refine gc_ald (r := (g11)) d_Jg_bind_67 ep13 q13 ?_
        refine gc_astore0 (r := (p13.2 (x6).toNatClampNeg)) d_Jg_bind_68 (by decide) hc ?_
        replace hc := ag_cs (i := 7) (v := ag_rf (p13.2 (x6).toNatClampNeg)) hc (ag_cat_rf _)
        refine gc_aload_n (r := (some (a))) d_Jg_bind_70 rfl ?_
        refine gc_aload (r := (x5)) d_Jg_bind_71 rfl ?_
        refine gc_aload (r := ((p13.2 (x6).toNatClampNeg))) d_Jg_bind_73 rfl ?_
        refine ag_iload_n d_Jg_bind_75 rfl ?_
        obtain ⟨a19, ea19, hyp⟩ := md_bd hyp
        obtain ⟨r19, er19, hyp⟩ := md_bd hyp
        refine gc_callv (r := (some (a))) (as := [ag_rf (x5), ag_rf ((p13.2 (x6).toNatClampNeg)), .int (x3)]) d_Jg_bind_76 ml_Jg_146 gw_894 rfl sl_Jg_fit ea19 (Nat.le_of_ble_eq_true rfl) (w_Jg_fit hC (d := d) (by omega) er19) (fun v19 h19 q19 => ?_)
        obtain ⟨rfl, rfl⟩ := q19
        refine gc_istore d_Jg_bind_79 (by decide) hc ?_
        replace hc := ag_cs (i := 8) (v := .int (r19.1)) hc rfl
        refine ag_iload d_Jg_bind_81 rfl ?_
        refine ag_iconst d_Jg_bind_83 ?_
        refine ag_icmp_eq d_Jg_bind_84 rfl (fun q => ?_) (fun q => ?_)
        · replace hyp := md_ifp q hyp
          exact ag_dr (ag_d1 rfl (ag_d1 rfl (ag_d1 rfl (ag_d1 rfl (ag_d1 rfl (ag_d1 rfl (ag_d1 rfl ag_d0))))))) (w_Jg_bind_104 hC hkR hH ih hyp)
        · replace hyp := md_ifn q hyp
          refine gc_aload_n (r := (some (a))) d_Jg_bind_87 rfl ?_
          refine gc_aload_n (r := (x1)) d_Jg_bind_88 rfl ?_
          refine ag_iload_n d_Jg_bind_89 rfl ?_
          refine ag_iconst d_Jg_bind_90 ?_
          refine ag_iadd d_Jg_bind_91 ?_
          refine ag_iload d_Jg_bind_92 rfl ?_
          refine ag_iload d_Jg_bind_94 rfl ?_
          refine gc_aload (r := ((p13.2 (x6).toNatClampNeg))) d_Jg_bind_96 rfl ?_
          refine ag_iconst d_Jg_bind_98 ?_
          obtain ⟨p33, ep33, hyp⟩ := md_bd hyp
          obtain ⟨q33, hyp⟩ := md_ifs hyp
          refine gc_ild (r := ((p13.2 (x6).toNatClampNeg))) d_Jg_bind_99 ep33 q33 ?_
          refine ag_ior d_Jg_bind_100 ?_
          obtain ⟨a35, ea35, hyp⟩ := md_bd hyp
          obtain ⟨r35, er35, hyp⟩ := md_bd hyp
          refine gc_callv (r := (some (a))) (as := [ag_rf (x1), .int ((x2) + (Int32.ofInt 1)), .int (r19.1), .int ((x4) ||| (p33.2 (Int32.ofInt 4).toNatClampNeg))]) d_Jg_bind_101 ml_Jg_132 gw_866 rfl sl_Jg_bind ea35 (Nat.le_of_ble_eq_true rfl) (hkR d (by omega) _ _ _ _ _ _ _ er35) (fun v35 h35 q35 => ?_)
          obtain ⟨rfl, rfl⟩ := q35
          exact ag_dr (ag_d1 rfl (ag_d1 rfl (ag_d1 rfl (ag_d1 rfl (ag_d1 rfl (ag_d1 rfl (ag_d1 rfl ag_d0))))))) (w_Jg_bind_104 hC hkR hH ih hyp)
theorem w_Jg_bind_0 {l : Launch} {G : ag_G} {d N Hk : Nat} {C : Nat × Nat} {a : Nat} {kR : Nat → Option Nat → Int32 → Int32 → Int32 → ag_H → Option ((Int32) × ag_H)} (hC : ag_cN G = C.1 ∧ ag_cS G = C.2) (hkR : ∀ (dk : Nat), Hk ≤ dk → ∀ (ua : Nat) (u0 : Option Nat) (u1 : Int32) (u2 : Int32) (u3 : Int32) (hh : ag_H) (res : (Int32) × ag_H), kR ua u0 u1 u2 u3 hh = some res → ag_Met gc_P l G m_Jg_bind dk [.ref ua, ag_rf u0, .int u1, .int u2, .int u3] hh (fun v h' => v = none ∧ h' = res.2)) (hH : Hk + 2 ≤ d) {x1 : Option Nat} {x2 : Int32} {x3 : Int32} {x4 : Int32} {h : ag_H} {res : (Int32) × ag_H} (hyp : fn_Jg_bind_0 N C kR a x1 x2 x3 x4 h = some res) : ag_ev gc_P l G m_Jg_bind (d + 1) (ag_ret gc_P G (fun v h' => v = none ∧ h' = res.2)) 0 [(0, .ref a), (1, ag_rf (x1)), (2, .int (x2)), (3, .int (x3)), (4, .int (x4))] [] h := by
  unfold fn_Jg_bind_0 at hyp
  have hc : ag_C1 [(0, .ref a), (1, ag_rf (x1)), (2, .int (x2)), (3, .int (x3)), (4, .int (x4))] := (ag_c1 rfl (ag_c1 (ag_cat_rf _) (ag_c1 rfl (ag_c1 rfl (ag_c1 rfl ag_c0)))))
  refine ag_iload_n d_Jg_bind_0 rfl ?_
  refine gc_aload_n (r := (x1)) d_Jg_bind_1 rfl ?_
  obtain ⟨g3, eg3, hyp⟩ := md_bd hyp
  refine gc_getr (r := (x1)) d_Jg_bind_2 fr_Jg_136 eg3 ?_
  obtain ⟨a4, ea4, hyp⟩ := md_bd hyp
  obtain ⟨r4, er4, hyp⟩ := md_bd hyp
  refine gc_callf (r := (g3)) (as := []) d_Jg_bind_5 il_Jg_84 ea4 (Nat.le_of_ble_eq_true rfl) (w_AL_size hC (d := d) (by omega) er4) (fun v4 h4 q4 => ?_)
  obtain ⟨rfl, rfl⟩ := q4
  refine ag_icmp_lt d_Jg_bind_10 rfl (fun q => ?_) (fun q => ?_)
  · replace hyp := md_ifp q hyp
    refine gc_aload_n (r := (x1)) d_Jg_bind_21 rfl ?_
    obtain ⟨g7, eg7, hyp⟩ := md_bd hyp
    refine gc_getr (r := (x1)) d_Jg_bind_22 fr_Jg_136 eg7 ?_
    refine ag_iload_n d_Jg_bind_25 rfl ?_
    obtain ⟨a9, ea9, hyp⟩ := md_bd hyp
    obtain ⟨r9, er9, hyp⟩ := md_bd hyp
    refine gc_callf (r := (g7)) (as := [.int (x2)]) d_Jg_bind_26 il_Jg_88 ea9 (Nat.le_of_ble_eq_true rfl) (w_AL_get hC (d := d) (by omega) er9) (fun v9 h9 q9 => ?_)
    obtain ⟨rfl, rfl⟩ := q9
    obtain ⟨q10, hyp⟩ := md_ifs hyp
    refine gc_cast (r := (r9.1)) d_Jg_bind_31 gw_891 rfl q10 ?_
    refine gc_astore0 (r := (r9.1)) d_Jg_bind_34 (by decide) hc ?_
    replace hc := ag_cs (i := 5) (v := ag_rf (r9.1)) hc (ag_cat_rf _)
    refine ag_iconst d_Jg_bind_36 ?_
    refine gc_istore d_Jg_bind_37 (by decide) hc ?_
    replace hc := ag_cs (i := 6) (v := .int (Int32.ofInt 0)) hc rfl
    exact ag_dr (ag_d1 rfl (ag_d1 rfl (ag_d1 rfl (ag_d1 rfl (ag_d1 rfl (ag_d1 rfl (ag_d1 rfl ag_d0))))))) (w_Jg_bind_39 hC hkR hH N _ _ _ _ _ _ _ _ hyp)
  · replace hyp := md_ifn q hyp
    refine gc_aload_n (r := (some (a))) d_Jg_bind_13 rfl ?_
    refine gc_aload_n (r := (x1)) d_Jg_bind_14 rfl ?_
    refine ag_iload d_Jg_bind_15 rfl ?_
    obtain ⟨a17, ea17, hyp⟩ := md_bd hyp
    obtain ⟨r17, er17, hyp⟩ := md_bd hyp
    refine gc_callv (r := (some (a))) (as := [ag_rf (x1), .int (x4)]) d_Jg_bind_17 ml_Jg_139 gw_870 rfl sl_Jg_finish ea17 (Nat.le_of_ble_eq_true rfl) (w_Jg_finish hC (d := d) (by omega) er17) (fun v17 h17 q17 => ?_)
    obtain ⟨rfl, rfl⟩ := q17
    cases hyp
    exact ag_vret d_Jg_bind_20 rfl ⟨rfl, rfl⟩
theorem w_Jg_bind {l : Launch} {G : ag_G} {d N Hk : Nat} {C : Nat × Nat} {kR : Nat → Option Nat → Int32 → Int32 → Int32 → ag_H → Option ((Int32) × ag_H)} (hC : ag_cN G = C.1 ∧ ag_cS G = C.2) (hkR : ∀ (dk : Nat), Hk ≤ dk → ∀ (ua : Nat) (u0 : Option Nat) (u1 : Int32) (u2 : Int32) (u3 : Int32) (hh : ag_H) (res : (Int32) × ag_H), kR ua u0 u1 u2 u3 hh = some res → ag_Met gc_P l G m_Jg_bind dk [.ref ua, ag_rf u0, .int u1, .int u2, .int u3] hh (fun v h' => v = none ∧ h' = res.2)) (hH : Hk + 2 + 1 ≤ d) {a : Nat} {p1 : Option Nat} {p2 : Int32} {p3 : Int32} {p4 : Int32} {h : ag_H} {res : (Int32) × ag_H} (hyp : fn_Jg_bind N C kR a p1 p2 p3 p4 h = some res) : ag_Met gc_P l G m_Jg_bind d [.ref a, ag_rf (p1), .int (p2), .int (p3), .int (p4)] h (fun v h' => v = none ∧ h' = res.2) := by
  obtain ⟨d, rfl, hG⟩ := md_dd hH
  exact ag_met0 (by decide) rfl (ag_v1 rfl (ag_v1 (ag_cat_rf _) (ag_v1 rfl (ag_v1 rfl (ag_v1 rfl ag_v0))))) (Nat.le_of_ble_eq_true rfl) (ag_dr (ag_d1 rfl (ag_d1 rfl (ag_d1 rfl (ag_d1 rfl (ag_d1 rfl ag_d0))))) (w_Jg_bind_0 hC hkR hG hyp))
def fn_Jg_bindR (N : Nat) (C : Nat × Nat) : Nat → Nat → Option Nat → Int32 → Int32 → Int32 → ag_H → Option ((Int32) × ag_H)
  | 0, _, _, _, _, _, _ => none
  | n + 1, a, p1, p2, p3, p4, h => fn_Jg_bind N C (fn_Jg_bindR N C n) a p1 p2 p3 p4 h
theorem w_Jg_bindR {l : Launch} {G : ag_G} {N : Nat} {C : Nat × Nat} (hC : ag_cN G = C.1 ∧ ag_cS G = C.2) : ∀ (n : Nat) (d : Nat), 3 * n ≤ d → ∀ (a : Nat) (p1 : Option Nat) (p2 : Int32) (p3 : Int32) (p4 : Int32) (h : ag_H) (res : (Int32) × ag_H), fn_Jg_bindR N C n a p1 p2 p3 p4 h = some res → ag_Met gc_P l G m_Jg_bind d [.ref a, ag_rf (p1), .int (p2), .int (p3), .int (p4)] h (fun v h' => v = none ∧ h' = res.2)
  | 0, _, _, _, _, _, _, _, _, _, hyp => by cases hyp
  | n + 1, d, hd, a, p1, p2, p3, p4, h, res, hyp => w_Jg_bind (Hk := 3 * n) hC (fun dk hk u0 u1 u2 u3 u4 u5 r hy => w_Jg_bindR hC n dk hk u0 u1 u2 u3 u4 u5 r hy) (by omega) hyp
def fn_Jg_search_23 (N : Nat) (C : Nat × Nat) (a : Nat) (x1 : Option Nat) (x3 : Int32) (s0 : Option Nat) (s1 : Int32) (s2 : Int32) (h : ag_H) : Option ((Int32) × ag_H) := (ag_pf h (ag_rf (s0)) 3 10 .int (.int ((s1) ||| (s2)))).bind fun h2 => (ag_pf h2 (ag_rf (some (a))) 3 11 .boolean (.int (Int32.ofInt 0))).bind fun h5 => (ag_pf h5 (ag_rf (some (a))) 3 12 .boolean (.int (Int32.ofInt 0))).bind fun h8 => (ag_pf h8 (ag_rf (some (a))) 3 13 .boolean (.int (Int32.ofInt 0))).bind fun h11 => (ag_rc h11 (some (a)) 3).bind fun a17 => (fn_Jg_bindR N C 5 a17 (x1) (Int32.ofInt 0) (Int32.ofInt 0) (x3) h11).bind fun r17 => some (0, r17.2)
def fn_Jg_search_0 (N : Nat) (C : Nat × Nat) (a : Nat) (x1 : Option Nat) (x2 : Int32) (h : ag_H) : Option ((Int32) × ag_H) := (ag_gi h (x1) 7 1).bind fun g10 => if (g10) = (0) then (fn_Jg_search_23 N C a (x1) ((Int32.ofInt 1) <<< ((x2) &&& 31)) (some (a)) (((Int8.ofInt (17)).toInt32) ||| ((Int32.ofInt 1) <<< ((x2) &&& 31))) (Int32.ofInt 0) h) else (fn_Jg_search_23 N C a (x1) ((Int32.ofInt 1) <<< ((x2) &&& 31)) (some (a)) (((Int8.ofInt (17)).toInt32) ||| ((Int32.ofInt 1) <<< ((x2) &&& 31))) (((Int32.ofInt 1) <<< ((x2) &&& 31)) - (Int32.ofInt 1)) h)
def fn_Jg_search (N : Nat) (C : Nat × Nat) (a : Nat) (p1 : Option Nat) (p2 : Int32) (h : ag_H) : Option ((Int32) × ag_H) := fn_Jg_search_0 N C a p1 p2 h
theorem w_Jg_search_23 {l : Launch} {G : ag_G} {d N : Nat} {C : Nat × Nat} {a : Nat} (hC : ag_cN G = C.1 ∧ ag_cS G = C.2) (hH : 15 ≤ d) {x1 : Option Nat} {x3 : Int32} {s0 : Option Nat} {s1 : Int32} {s2 : Int32} {h : ag_H} {res : (Int32) × ag_H} (hyp : fn_Jg_search_23 N C a x1 x3 s0 s1 s2 h = some res) : ag_ev gc_P l G m_Jg_search (d + 1) (ag_ret gc_P G (fun v h' => v = none ∧ h' = res.2)) 23 [(0, .ref a), (1, ag_rf (x1)), (3, .int (x3))] [.int (s2), .int (s1), ag_rf (s0)] h := by
  unfold fn_Jg_search_23 at hyp
  have hc : ag_C1 [(0, .ref a), (1, ag_rf (x1)), (3, .int (x3))] := (ag_c1 rfl (ag_c1 (ag_cat_rf _) (ag_c1 rfl ag_c0)))
  refine ag_ior d_Jg_search_23 ?_
  obtain ⟨h2, eh2, hyp⟩ := md_bd hyp
  refine gc_putf (r := (s0)) d_Jg_search_24 fl_Jg_129 (fun q => by cases q) eh2 ?_
  refine gc_aload_n (r := (some (a))) d_Jg_search_27 rfl ?_
  refine ag_iconst d_Jg_search_28 ?_
  obtain ⟨h5, eh5, hyp⟩ := md_bd hyp
  refine gc_putf (r := (some (a))) d_Jg_search_29 fl_Jg_120 (fun q => by cases q) eh5 ?_
  refine gc_aload_n (r := (some (a))) d_Jg_search_32 rfl ?_
  refine ag_iconst d_Jg_search_33 ?_
  obtain ⟨h8, eh8, hyp⟩ := md_bd hyp
  refine gc_putf (r := (some (a))) d_Jg_search_34 fl_Jg_123 (fun q => by cases q) eh8 ?_
  refine gc_aload_n (r := (some (a))) d_Jg_search_37 rfl ?_
  refine ag_iconst d_Jg_search_38 ?_
  obtain ⟨h11, eh11, hyp⟩ := md_bd hyp
  refine gc_putf (r := (some (a))) d_Jg_search_39 fl_Jg_117 (fun q => by cases q) eh11 ?_
  refine gc_aload_n (r := (some (a))) d_Jg_search_42 rfl ?_
  refine gc_aload_n (r := (x1)) d_Jg_search_43 rfl ?_
  refine ag_iconst d_Jg_search_44 ?_
  refine ag_iconst d_Jg_search_45 ?_
  refine ag_iload_n d_Jg_search_46 rfl ?_
  obtain ⟨a17, ea17, hyp⟩ := md_bd hyp
  obtain ⟨r17, er17, hyp⟩ := md_bd hyp
  refine gc_callv (r := (some (a))) (as := [ag_rf (x1), .int (Int32.ofInt 0), .int (Int32.ofInt 0), .int (x3)]) d_Jg_search_47 ml_Jg_132 gw_866 rfl sl_Jg_bind ea17 (Nat.le_of_ble_eq_true rfl) (w_Jg_bindR hC 5 d (by omega) _ _ _ _ _ _ _ er17) (fun v17 h17 q17 => ?_)
  obtain ⟨rfl, rfl⟩ := q17
  cases hyp
  exact ag_vret d_Jg_search_50 rfl ⟨rfl, rfl⟩
theorem w_Jg_search_0 {l : Launch} {G : ag_G} {d N : Nat} {C : Nat × Nat} {a : Nat} (hC : ag_cN G = C.1 ∧ ag_cS G = C.2) (hH : 15 ≤ d) {x1 : Option Nat} {x2 : Int32} {h : ag_H} {res : (Int32) × ag_H} (hyp : fn_Jg_search_0 N C a x1 x2 h = some res) : ag_ev gc_P l G m_Jg_search (d + 1) (ag_ret gc_P G (fun v h' => v = none ∧ h' = res.2)) 0 [(0, .ref a), (1, ag_rf (x1)), (2, .int (x2))] [] h := by
  unfold fn_Jg_search_0 at hyp
  have hc : ag_C1 [(0, .ref a), (1, ag_rf (x1)), (2, .int (x2))] := (ag_c1 rfl (ag_c1 (ag_cat_rf _) (ag_c1 rfl ag_c0)))
  refine ag_iconst d_Jg_search_0 ?_
  refine ag_iload_n d_Jg_search_1 rfl ?_
  refine ag_ishl d_Jg_search_2 ?_
  refine gc_istore_n d_Jg_search_3 (by decide) hc ?_
  replace hc := ag_cs (i := 3) (v := .int ((Int32.ofInt 1) <<< ((x2) &&& 31))) hc rfl
  refine gc_aload_n (r := (some (a))) d_Jg_search_4 rfl ?_
  refine ag_bipush d_Jg_search_5 ?_
  refine ag_iload_n d_Jg_search_7 rfl ?_
  refine ag_ior d_Jg_search_8 ?_
  refine gc_aload_n (r := (x1)) d_Jg_search_9 rfl ?_
  obtain ⟨g10, eg10, hyp⟩ := md_bd hyp
  refine gc_geti (r := (x1)) d_Jg_search_10 fr_Jg_126 eg10 ?_
  refine ag_if_eq d_Jg_search_13 rfl (fun q => ?_) (fun q => ?_)
  · replace hyp := md_ifp q hyp
    refine ag_iconst d_Jg_search_22 ?_
    exact ag_dr (ag_d1 rfl (ag_d1 rfl (ag_d1 rfl ag_d0))) (w_Jg_search_23 hC hH hyp)
  · replace hyp := md_ifn q hyp
    refine ag_iload_n d_Jg_search_16 rfl ?_
    refine ag_iconst d_Jg_search_17 ?_
    refine ag_isub d_Jg_search_18 ?_
    refine ag_goto d_Jg_search_19 rfl ?_
    exact ag_dr (ag_d1 rfl (ag_d1 rfl (ag_d1 rfl ag_d0))) (w_Jg_search_23 hC hH hyp)
theorem w_Jg_search {l : Launch} {G : ag_G} {d N : Nat} {C : Nat × Nat} (hC : ag_cN G = C.1 ∧ ag_cS G = C.2) (hH : 15 + 1 ≤ d) {a : Nat} {p1 : Option Nat} {p2 : Int32} {h : ag_H} {res : (Int32) × ag_H} (hyp : fn_Jg_search N C a p1 p2 h = some res) : ag_Met gc_P l G m_Jg_search d [.ref a, ag_rf (p1), .int (p2)] h (fun v h' => v = none ∧ h' = res.2) := by
  obtain ⟨d, rfl, hG⟩ := md_dd hH
  exact ag_met0 (by decide) rfl (ag_v1 rfl (ag_v1 (ag_cat_rf _) (ag_v1 rfl ag_v0))) (Nat.le_of_ble_eq_true rfl) (ag_dr (ag_d1 rfl (ag_d1 rfl (ag_d1 rfl ag_d0))) (w_Jg_search_0 hC hG hyp))
def fn_Jg_makeRound_86 (N : Nat) (C : Nat × Nat) (a : Nat) (k18 : Int32 → ag_H → Option ((Int32) × ag_H)) (k35 : Int32 → Option Nat → Int32 → ag_H → Option ((Int32) × ag_H)) (x1 : Int32) (x2 : Option Nat) (x3 : Int32) (h : ag_H) : Option ((Int32) × ag_H) := k35 (x1) (x2) ((x3) + Int32.ofInt (1)) h
def fn_Jg_makeRound_35 (N : Nat) (C : Nat × Nat) (a : Nat) (k18 : Int32 → ag_H → Option ((Int32) × ag_H)) : Nat → Int32 → Option Nat → Int32 → ag_H → Option ((Int32) × ag_H)
  | 0, _, _, _, _ => none
  | n + 1, x1, x2, x3, h => (ag_rc h (x2) 11).bind fun a3 => (fn_AL_size N C a3  h).bind fun r3 => if (r3.1) ≤ (x3) then (k18 ((x1) + Int32.ofInt (1)) r3.2) else ((ag_rc r3.2 (x2) 11).bind fun a9 => (fn_AL_get N C a9 (x3) r3.2).bind fun r9 => if ag_ck r9.2 (r9.1) 7 = true then ((ag_gi r9.2 ((r9.1)) 7 0).bind fun g13 => if (g13) = (Int32.ofInt 1) then ((ag_rc r9.2 (some (a)) 3).bind fun a19 => (fn_Jg_search N C a19 ((r9.1)) (x1) r9.2).bind fun r19 => (ag_gi r19.2 (some (a)) 3 9).bind fun g22 => (ag_gi r19.2 (some (a)) 3 13).bind fun g24 => (ag_pf r19.2 (ag_rf (some (a))) 3 9 .boolean (.int ((g22) ||| (g24)))).bind fun h26 => fn_Jg_makeRound_86 N C a k18 (fn_Jg_makeRound_35 N C a k18 n) (x1) (x2) (x3) h26) else (fn_Jg_makeRound_86 N C a k18 (fn_Jg_makeRound_35 N C a k18 n) (x1) (x2) (x3) r9.2)) else none)
theorem fe_Jg_makeRound_35 (N : Nat) (C : Nat × Nat) (a : Nat) (k18 : Int32 → ag_H → Option ((Int32) × ag_H)) (n : Nat) (x1 : Int32) (x2 : Option Nat) (x3 : Int32) (h : ag_H) : fn_Jg_makeRound_35 N C a k18 (n + 1) x1 x2 x3 h = ((ag_rc h (x2) 11).bind fun a3 => (fn_AL_size N C a3  h).bind fun r3 => if (r3.1) ≤ (x3) then (k18 ((x1) + Int32.ofInt (1)) r3.2) else ((ag_rc r3.2 (x2) 11).bind fun a9 => (fn_AL_get N C a9 (x3) r3.2).bind fun r9 => if ag_ck r9.2 (r9.1) 7 = true then ((ag_gi r9.2 ((r9.1)) 7 0).bind fun g13 => if (g13) = (Int32.ofInt 1) then ((ag_rc r9.2 (some (a)) 3).bind fun a19 => (fn_Jg_search N C a19 ((r9.1)) (x1) r9.2).bind fun r19 => (ag_gi r19.2 (some (a)) 3 9).bind fun g22 => (ag_gi r19.2 (some (a)) 3 13).bind fun g24 => (ag_pf r19.2 (ag_rf (some (a))) 3 9 .boolean (.int ((g22) ||| (g24)))).bind fun h26 => fn_Jg_makeRound_86 N C a k18 (fn_Jg_makeRound_35 N C a k18 n) (x1) (x2) (x3) h26) else (fn_Jg_makeRound_86 N C a k18 (fn_Jg_makeRound_35 N C a k18 n) (x1) (x2) (x3) r9.2)) else none)) := rfl
def fn_Jg_makeRound_18 (N : Nat) (C : Nat × Nat) (a : Nat) : Nat → Int32 → ag_H → Option ((Int32) × ag_H)
  | 0, _, _ => none
  | n + 1, x1, h => if (Int32.ofInt 5) ≤ (x1) then (some (0, h)) else ((ag_gr h (some (a)) 3 2).bind fun g6 => (ag_ao h (g6)).bind fun p8 => if md_in (x1) p8.1 = true then ((ag_gr h (p8.2 (x1).toNatClampNeg) 5 0).bind fun g9 => fn_Jg_makeRound_35 N C a (fn_Jg_makeRound_18 N C a n) N (x1) ((g9)) (Int32.ofInt 0) h) else none)
theorem fe_Jg_makeRound_18 (N : Nat) (C : Nat × Nat) (a : Nat) (n : Nat) (x1 : Int32) (h : ag_H) : fn_Jg_makeRound_18 N C a (n + 1) x1 h = (if (Int32.ofInt 5) ≤ (x1) then (some (0, h)) else ((ag_gr h (some (a)) 3 2).bind fun g6 => (ag_ao h (g6)).bind fun p8 => if md_in (x1) p8.1 = true then ((ag_gr h (p8.2 (x1).toNatClampNeg) 5 0).bind fun g9 => fn_Jg_makeRound_35 N C a (fn_Jg_makeRound_18 N C a n) N (x1) ((g9)) (Int32.ofInt 0) h) else none)) := rfl
def fn_Jg_makeRound_0 (N : Nat) (C : Nat × Nat) (a : Nat) (h : ag_H) : Option ((Int32) × ag_H) := (ag_gr h (some (a)) 3 0).bind fun g3 => (ag_gi h (g3) 4 1).bind fun g4 => (ag_pf h (ag_rf (some (a))) 3 8 .int (.int (g4))).bind fun h5 => (ag_pf h5 (ag_rf (some (a))) 3 9 .boolean (.int (Int32.ofInt 0))).bind fun h8 => fn_Jg_makeRound_18 N C a N (Int32.ofInt 0) h8
def fn_Jg_makeRound (N : Nat) (C : Nat × Nat) (a : Nat) (h : ag_H) : Option ((Int32) × ag_H) := fn_Jg_makeRound_0 N C a h
theorem w_Jg_makeRound_86 {l : Launch} {G : ag_G} {d N : Nat} {C : Nat × Nat} {a : Nat} (hC : ag_cN G = C.1 ∧ ag_cS G = C.2) (hH : 16 ≤ d) {k18 : Int32 → ag_H → Option ((Int32) × ag_H)} {k35 : Int32 → Option Nat → Int32 → ag_H → Option ((Int32) × ag_H)} (hk18 : ∀ (res : (Int32) × ag_H) (y1 : Int32) (hh : ag_H), k18 y1 hh = some res → ag_ev gc_P l G m_Jg_makeRound (d + 1) (ag_ret gc_P G (fun v h' => v = none ∧ h' = res.2)) 18 [(0, .ref a), (1, .int (y1))] [] hh) (hk35 : ∀ (res : (Int32) × ag_H) (y1 : Int32) (y2 : Option Nat) (y3 : Int32) (hh : ag_H), k35 y1 y2 y3 hh = some res → ag_ev gc_P l G m_Jg_makeRound (d + 1) (ag_ret gc_P G (fun v h' => v = none ∧ h' = res.2)) 35 [(0, .ref a), (1, .int (y1)), (2, ag_rf (y2)), (3, .int (y3))] [] hh) {x1 : Int32} {x2 : Option Nat} {x3 : Int32} {h : ag_H} {res : (Int32) × ag_H} (hyp : fn_Jg_makeRound_86 N C a k18 k35 x1 x2 x3 h = some res) : ag_ev gc_P l G m_Jg_makeRound (d + 1) (ag_ret gc_P G (fun v h' => v = none ∧ h' = res.2)) 86 [(0, .ref a), (1, .int (x1)), (2, ag_rf (x2)), (3, .int (x3))] [] h := by
  unfold fn_Jg_makeRound_86 at hyp
  have hc : ag_C1 [(0, .ref a), (1, .int (x1)), (2, ag_rf (x2)), (3, .int (x3))] := (ag_c1 rfl (ag_c1 rfl (ag_c1 (ag_cat_rf _) (ag_c1 rfl ag_c0))))
  refine gc_iinc d_Jg_makeRound_86 rfl (by decide) hc ?_
  replace hc := ag_cs (i := 3) (v := .int ((x3) + Int32.ofInt (1))) hc rfl
  refine ag_goto d_Jg_makeRound_89 rfl ?_
  exact ag_dr (ag_d1 rfl (ag_d1 rfl (ag_d1 rfl (ag_d1 rfl ag_d0)))) (hk35 _ _ _ _ _ hyp)
theorem w_Jg_makeRound_35 {l : Launch} {G : ag_G} {d N : Nat} {C : Nat × Nat} {a : Nat} (hC : ag_cN G = C.1 ∧ ag_cS G = C.2) (hH : 16 ≤ d) {k18 : Int32 → ag_H → Option ((Int32) × ag_H)} (hk18 : ∀ (res : (Int32) × ag_H) (y1 : Int32) (hh : ag_H), k18 y1 hh = some res → ag_ev gc_P l G m_Jg_makeRound (d + 1) (ag_ret gc_P G (fun v h' => v = none ∧ h' = res.2)) 18 [(0, .ref a), (1, .int (y1))] [] hh) : ∀ (n : Nat) (res : (Int32) × ag_H) (x1 : Int32) (x2 : Option Nat) (x3 : Int32) (h : ag_H) , fn_Jg_makeRound_35 N C a k18 n x1 x2 x3 h = some res → ag_ev gc_P l G m_Jg_makeRound (d + 1) (ag_ret gc_P G (fun v h' => v = none ∧ h' = res.2)) 35 [(0, .ref a), (1, .int (x1)), (2, ag_rf (x2)), (3, .int (x3))] [] h := by
  intro n
  induction n with
  | zero =>
    intro res x1 x2 x3 h hyp
    cases hyp
  | succ n ih =>
    intro res x1 x2 x3 h hyp
    rw [fe_Jg_makeRound_35] at hyp
    have hc : ag_C1 [(0, .ref a), (1, .int (x1)), (2, ag_rf (x2)), (3, .int (x3))] := (ag_c1 rfl (ag_c1 rfl (ag_c1 (ag_cat_rf _) (ag_c1 rfl ag_c0))))
    refine ag_iload_n d_Jg_makeRound_35 rfl ?_
    refine gc_aload_n (r := (x2)) d_Jg_makeRound_36 rfl ?_
    obtain ⟨a3, ea3, hyp⟩ := md_bd hyp
    obtain ⟨r3, er3, hyp⟩ := md_bd hyp
    refine gc_callf (r := (x2)) (as := []) d_Jg_makeRound_37 il_Jg_84 ea3 (Nat.le_of_ble_eq_true rfl) (w_AL_size hC (d := d) (by omega) er3) (fun v3 h3 q3 => ?_)
    obtain ⟨rfl, rfl⟩ := q3
    refine ag_icmp_ge d_Jg_makeRound_42 rfl (fun q => ?_) (fun q => ?_)
    · replace hyp := md_ifp q hyp
      refine gc_iinc d_Jg_makeRound_92 rfl (by decide) hc ?_
      replace hc := ag_cs (i := 1) (v := .int ((x1) + Int32.ofInt (1))) hc rfl
      refine ag_goto d_Jg_makeRound_95 rfl ?_
      exact ag_dr (ag_d1 rfl (ag_d1 rfl ag_d0)) (hk18 _ _ _ hyp)
    · replace hyp := md_ifn q hyp
      refine gc_aload_n (r := (x2)) d_Jg_makeRound_45 rfl ?_
      refine ag_iload_n d_Jg_makeRound_46 rfl ?_
      obtain ⟨a9, ea9, hyp⟩ := md_bd hyp
      obtain ⟨r9, er9, hyp⟩ := md_bd hyp
      refine gc_callf (r := (x2)) (as := [.int (x3)]) d_Jg_makeRound_47 il_Jg_88 ea9 (Nat.le_of_ble_eq_true rfl) (w_AL_get hC (d := d) (by omega) er9) (fun v9 h9 q9 => ?_)
      obtain ⟨rfl, rfl⟩ := q9
      obtain ⟨q10, hyp⟩ := md_ifs hyp
      refine gc_cast (r := (r9.1)) d_Jg_makeRound_52 gw_851 rfl q10 ?_
      refine gc_astore0 (r := (r9.1)) d_Jg_makeRound_55 (by decide) hc ?_
      replace hc := ag_cs (i := 4) (v := ag_rf (r9.1)) hc (ag_cat_rf _)
      refine gc_aload (r := ((r9.1))) d_Jg_makeRound_57 rfl ?_
      obtain ⟨g13, eg13, hyp⟩ := md_bd hyp
      refine gc_geti (r := ((r9.1))) d_Jg_makeRound_59 fr_Jg_94 eg13 ?_
      refine ag_iconst d_Jg_makeRound_62 ?_
      refine ag_icmp_ne d_Jg_makeRound_63 rfl (fun q => ?_) (fun q => ?_)
      · replace hyp := md_ifn q hyp
        exact ag_dr (ag_d1 rfl (ag_d1 rfl (ag_d1 rfl (ag_d1 rfl ag_d0)))) (w_Jg_makeRound_86 hC hH hk18 ih hyp)
      · replace hyp := md_ifp q hyp
        refine gc_aload_n (r := (some (a))) d_Jg_makeRound_66 rfl ?_
        refine gc_aload (r := ((r9.1))) d_Jg_makeRound_67 rfl ?_
        refine ag_iload_n d_Jg_makeRound_69 rfl ?_
        obtain ⟨a19, ea19, hyp⟩ := md_bd hyp
        obtain ⟨r19, er19, hyp⟩ := md_bd hyp
        refine gc_callv (r := (some (a))) (as := [ag_rf ((r9.1)), .int (x1)]) d_Jg_makeRound_70 ml_Jg_113 gw_862 rfl sl_Jg_search ea19 (Nat.le_of_ble_eq_true rfl) (w_Jg_search hC (d := d) (by omega) er19) (fun v19 h19 q19 => ?_)
        obtain ⟨rfl, rfl⟩ := q19
        refine gc_aload_n (r := (some (a))) d_Jg_makeRound_73 rfl ?_
        refine ag_dup d_Jg_makeRound_74 rfl ?_
        obtain ⟨g22, eg22, hyp⟩ := md_bd hyp
        refine gc_geti (r := (some (a))) d_Jg_makeRound_75 fr_Jg_69 eg22 ?_
        refine gc_aload_n (r := (some (a))) d_Jg_makeRound_78 rfl ?_
        obtain ⟨g24, eg24, hyp⟩ := md_bd hyp
        refine gc_geti (r := (some (a))) d_Jg_makeRound_79 fr_Jg_117 eg24 ?_
        refine ag_ior d_Jg_makeRound_82 ?_
        obtain ⟨h26, eh26, hyp⟩ := md_bd hyp
        refine gc_putf (r := (some (a))) d_Jg_makeRound_83 fl_Jg_69 (fun q => by cases q) eh26 ?_
        exact ag_dr (ag_d1 rfl (ag_d1 rfl (ag_d1 rfl (ag_d1 rfl ag_d0)))) (w_Jg_makeRound_86 hC hH hk18 ih hyp)
theorem w_Jg_makeRound_18 {l : Launch} {G : ag_G} {d N : Nat} {C : Nat × Nat} {a : Nat} (hC : ag_cN G = C.1 ∧ ag_cS G = C.2) (hH : 16 ≤ d) : ∀ (n : Nat) (res : (Int32) × ag_H) (x1 : Int32) (h : ag_H) , fn_Jg_makeRound_18 N C a n x1 h = some res → ag_ev gc_P l G m_Jg_makeRound (d + 1) (ag_ret gc_P G (fun v h' => v = none ∧ h' = res.2)) 18 [(0, .ref a), (1, .int (x1))] [] h := by
  intro n
  induction n with
  | zero =>
    intro res x1 h hyp
    cases hyp
  | succ n ih =>
    intro res x1 h hyp
    rw [fe_Jg_makeRound_18] at hyp
    have hc : ag_C1 [(0, .ref a), (1, .int (x1))] := (ag_c1 rfl (ag_c1 rfl ag_c0))
    refine ag_iload_n d_Jg_makeRound_18 rfl ?_
    refine ag_iconst d_Jg_makeRound_19 ?_
    refine ag_icmp_ge d_Jg_makeRound_20 rfl (fun q => ?_) (fun q => ?_)
    · replace hyp := md_ifp q hyp
      cases hyp
      exact ag_vret d_Jg_makeRound_98 rfl ⟨rfl, rfl⟩
    · replace hyp := md_ifn q hyp
      refine gc_aload_n (r := (some (a))) d_Jg_makeRound_23 rfl ?_
      obtain ⟨g6, eg6, hyp⟩ := md_bd hyp
      refine gc_getr (r := (some (a))) d_Jg_makeRound_24 fr_Jg_25 eg6 ?_
      refine ag_iload_n d_Jg_makeRound_27 rfl ?_
      obtain ⟨p8, ep8, hyp⟩ := md_bd hyp
      obtain ⟨q8, hyp⟩ := md_ifs hyp
      refine gc_ald (r := (g6)) d_Jg_makeRound_28 ep8 q8 ?_
      obtain ⟨g9, eg9, hyp⟩ := md_bd hyp
      refine gc_getr (r := (p8.2 (x1).toNatClampNeg)) d_Jg_makeRound_29 fr_Jg_80 eg9 ?_
      refine gc_astore0_n (r := (g9)) d_Jg_makeRound_32 (by decide) hc ?_
      replace hc := ag_cs (i := 2) (v := ag_rf (g9)) hc (ag_cat_rf _)
      refine ag_iconst d_Jg_makeRound_33 ?_
      refine gc_istore_n d_Jg_makeRound_34 (by decide) hc ?_
      replace hc := ag_cs (i := 3) (v := .int (Int32.ofInt 0)) hc rfl
      exact ag_dr (ag_d1 rfl (ag_d1 rfl (ag_d1 rfl (ag_d1 rfl ag_d0)))) (w_Jg_makeRound_35 hC hH ih N _ _ _ _ _ hyp)
theorem w_Jg_makeRound_0 {l : Launch} {G : ag_G} {d N : Nat} {C : Nat × Nat} {a : Nat} (hC : ag_cN G = C.1 ∧ ag_cS G = C.2) (hH : 16 ≤ d) {h : ag_H} {res : (Int32) × ag_H} (hyp : fn_Jg_makeRound_0 N C a h = some res) : ag_ev gc_P l G m_Jg_makeRound (d + 1) (ag_ret gc_P G (fun v h' => v = none ∧ h' = res.2)) 0 [(0, .ref a)] [] h := by
  unfold fn_Jg_makeRound_0 at hyp
  have hc : ag_C1 [(0, .ref a)] := (ag_c1 rfl ag_c0)
  refine gc_aload_n (r := (some (a))) d_Jg_makeRound_0 rfl ?_
  refine gc_aload_n (r := (some (a))) d_Jg_makeRound_1 rfl ?_
  obtain ⟨g3, eg3, hyp⟩ := md_bd hyp
  refine gc_getr (r := (some (a))) d_Jg_makeRound_2 fr_Jg_14 eg3 ?_
  obtain ⟨g4, eg4, hyp⟩ := md_bd hyp
  refine gc_geti (r := (g3)) d_Jg_makeRound_5 fr_Jg_47 eg4 ?_
  obtain ⟨h5, eh5, hyp⟩ := md_bd hyp
  refine gc_putf (r := (some (a))) d_Jg_makeRound_8 fl_Jg_66 (fun q => by cases q) eh5 ?_
  refine gc_aload_n (r := (some (a))) d_Jg_makeRound_11 rfl ?_
  refine ag_iconst d_Jg_makeRound_12 ?_
  obtain ⟨h8, eh8, hyp⟩ := md_bd hyp
  refine gc_putf (r := (some (a))) d_Jg_makeRound_13 fl_Jg_69 (fun q => by cases q) eh8 ?_
  refine ag_iconst d_Jg_makeRound_16 ?_
  refine gc_istore_n d_Jg_makeRound_17 (by decide) hc ?_
  replace hc := ag_cs (i := 1) (v := .int (Int32.ofInt 0)) hc rfl
  exact ag_dr (ag_d1 rfl (ag_d1 rfl ag_d0)) (w_Jg_makeRound_18 hC hH N _ _ _ hyp)
theorem w_Jg_makeRound {l : Launch} {G : ag_G} {d N : Nat} {C : Nat × Nat} (hC : ag_cN G = C.1 ∧ ag_cS G = C.2) (hH : 16 + 1 ≤ d) {a : Nat} {h : ag_H} {res : (Int32) × ag_H} (hyp : fn_Jg_makeRound N C a h = some res) : ag_Met gc_P l G m_Jg_makeRound d [.ref a] h (fun v h' => v = none ∧ h' = res.2) := by
  obtain ⟨d, rfl, hG⟩ := md_dd hH
  exact ag_met (by decide) rfl (Nat.le_of_ble_eq_true rfl) (ag_dr (ag_d1 rfl ag_d0) (w_Jg_makeRound_0 hC hG hyp))
def fn_Jg_settle_67 (N : Nat) (C : Nat × Nat) (a : Nat) (h : ag_H) : Option ((Int32) × ag_H) := if md_01 (Int32.ofInt 0) = true then (some ((Int32.ofInt 0), h)) else none
def fn_Jg_settle_61 (N : Nat) (C : Nat × Nat) (a : Nat) (k6 : Int32 → Int32 → ag_H → Option ((Int32) × ag_H)) (x1 : Int32) (x2 : Int32) (h : ag_H) : Option ((Int32) × ag_H) := k6 (x1) ((x2) + Int32.ofInt (1)) h
def fn_Jg_settle_6 (N : Nat) (C : Nat × Nat) (a : Nat) : Nat → Int32 → Int32 → ag_H → Option ((Int32) × ag_H)
  | 0, _, _, _ => none
  | n + 1, x1, x2, h => if (x1) ≤ (x2) then (fn_Jg_settle_67 N C a  h) else ((ag_gr h (some (a)) 3 0).bind fun g5 => (ag_gi h (g5) 4 2).bind fun g6 => if (g6) = (0) then ((ag_rc h (some (a)) 3).bind fun a9 => (fn_Jg_makeRound N C a9  h).bind fun r9 => (ag_gi r9.2 (some (a)) 3 4).bind fun g12 => (ag_pf r9.2 (ag_rf (some (a))) 3 4 .int (.int ((g12) + (Int32.ofInt 1)))).bind fun h15 => (ag_gr h15 (some (a)) 3 0).bind fun g17 => (ag_gi h15 (g17) 4 1).bind fun g18 => (ag_gi h15 (some (a)) 3 8).bind fun g20 => if (g18) = (g20) then ((ag_gr h15 (some (a)) 3 0).bind fun g23 => (ag_gi h15 (g23) 4 2).bind fun g24 => if (g24) = (0) then (if md_01 (Int32.ofInt 1) = true then (some ((Int32.ofInt 1), h15)) else none) else (fn_Jg_settle_61 N C a (fn_Jg_settle_6 N C a n) (x1) (x2) h15)) else (fn_Jg_settle_61 N C a (fn_Jg_settle_6 N C a n) (x1) (x2) h15)) else (fn_Jg_settle_67 N C a  h))
theorem fe_Jg_settle_6 (N : Nat) (C : Nat × Nat) (a : Nat) (n : Nat) (x1 : Int32) (x2 : Int32) (h : ag_H) : fn_Jg_settle_6 N C a (n + 1) x1 x2 h = (if (x1) ≤ (x2) then (fn_Jg_settle_67 N C a  h) else ((ag_gr h (some (a)) 3 0).bind fun g5 => (ag_gi h (g5) 4 2).bind fun g6 => if (g6) = (0) then ((ag_rc h (some (a)) 3).bind fun a9 => (fn_Jg_makeRound N C a9  h).bind fun r9 => (ag_gi r9.2 (some (a)) 3 4).bind fun g12 => (ag_pf r9.2 (ag_rf (some (a))) 3 4 .int (.int ((g12) + (Int32.ofInt 1)))).bind fun h15 => (ag_gr h15 (some (a)) 3 0).bind fun g17 => (ag_gi h15 (g17) 4 1).bind fun g18 => (ag_gi h15 (some (a)) 3 8).bind fun g20 => if (g18) = (g20) then ((ag_gr h15 (some (a)) 3 0).bind fun g23 => (ag_gi h15 (g23) 4 2).bind fun g24 => if (g24) = (0) then (if md_01 (Int32.ofInt 1) = true then (some ((Int32.ofInt 1), h15)) else none) else (fn_Jg_settle_61 N C a (fn_Jg_settle_6 N C a n) (x1) (x2) h15)) else (fn_Jg_settle_61 N C a (fn_Jg_settle_6 N C a n) (x1) (x2) h15)) else (fn_Jg_settle_67 N C a  h))) := rfl
def fn_Jg_settle_0 (N : Nat) (C : Nat × Nat) (a : Nat) (x1 : Int32) (h : ag_H) : Option ((Int32) × ag_H) := (ag_rc h (some (a)) 3).bind fun a2 => (fn_Jg_layFacts N C a2  h).bind fun r2 => fn_Jg_settle_6 N C a N (x1) (Int32.ofInt 0) r2.2
def fn_Jg_settle (N : Nat) (C : Nat × Nat) (a : Nat) (p1 : Int32) (h : ag_H) : Option ((Int32) × ag_H) := fn_Jg_settle_0 N C a p1 h
theorem w_Jg_settle_67 {l : Launch} {G : ag_G} {d N : Nat} {C : Nat × Nat} {a : Nat} (hC : ag_cN G = C.1 ∧ ag_cS G = C.2) (hH : 17 ≤ d) {h : ag_H} {res : (Int32) × ag_H} (hyp : fn_Jg_settle_67 N C a h = some res) : ag_ev gc_P l G m_Jg_settle (d + 1) (ag_ret gc_P G (fun v h' => v = some (.int res.1) ∧ h' = res.2)) 67 [(0, .ref a)] [] h := by
  unfold fn_Jg_settle_67 at hyp
  have hc : ag_C1 [(0, .ref a)] := (ag_c1 rfl ag_c0)
  refine ag_iconst d_Jg_settle_67 ?_
  obtain ⟨q2, hyp⟩ := md_ifs hyp
  cases hyp
  exact ag_iret d_Jg_settle_68 rfl (md_01n q2) ⟨rfl, rfl⟩
theorem w_Jg_settle_61 {l : Launch} {G : ag_G} {d N : Nat} {C : Nat × Nat} {a : Nat} (hC : ag_cN G = C.1 ∧ ag_cS G = C.2) (hH : 17 ≤ d) {k6 : Int32 → Int32 → ag_H → Option ((Int32) × ag_H)} (hk6 : ∀ (res : (Int32) × ag_H) (y1 : Int32) (y2 : Int32) (hh : ag_H), k6 y1 y2 hh = some res → ag_ev gc_P l G m_Jg_settle (d + 1) (ag_ret gc_P G (fun v h' => v = some (.int res.1) ∧ h' = res.2)) 6 [(0, .ref a), (1, .int (y1)), (2, .int (y2))] [] hh) {x1 : Int32} {x2 : Int32} {h : ag_H} {res : (Int32) × ag_H} (hyp : fn_Jg_settle_61 N C a k6 x1 x2 h = some res) : ag_ev gc_P l G m_Jg_settle (d + 1) (ag_ret gc_P G (fun v h' => v = some (.int res.1) ∧ h' = res.2)) 61 [(0, .ref a), (1, .int (x1)), (2, .int (x2))] [] h := by
  unfold fn_Jg_settle_61 at hyp
  have hc : ag_C1 [(0, .ref a), (1, .int (x1)), (2, .int (x2))] := (ag_c1 rfl (ag_c1 rfl (ag_c1 rfl ag_c0)))
  refine gc_iinc d_Jg_settle_61 rfl (by decide) hc ?_
  replace hc := ag_cs (i := 2) (v := .int ((x2) + Int32.ofInt (1))) hc rfl
  refine ag_goto d_Jg_settle_64 rfl ?_
  exact ag_dr (ag_d1 rfl (ag_d1 rfl (ag_d1 rfl ag_d0))) (hk6 _ _ _ _ hyp)
theorem w_Jg_settle_6 {l : Launch} {G : ag_G} {d N : Nat} {C : Nat × Nat} {a : Nat} (hC : ag_cN G = C.1 ∧ ag_cS G = C.2) (hH : 17 ≤ d) : ∀ (n : Nat) (res : (Int32) × ag_H) (x1 : Int32) (x2 : Int32) (h : ag_H) , fn_Jg_settle_6 N C a n x1 x2 h = some res → ag_ev gc_P l G m_Jg_settle (d + 1) (ag_ret gc_P G (fun v h' => v = some (.int res.1) ∧ h' = res.2)) 6 [(0, .ref a), (1, .int (x1)), (2, .int (x2))] [] h := by
  intro n
  induction n with
  | zero =>
    intro res x1 x2 h hyp
    cases hyp
  | succ n ih =>
    intro res x1 x2 h hyp
    rw [fe_Jg_settle_6] at hyp
    have hc : ag_C1 [(0, .ref a), (1, .int (x1)), (2, .int (x2))] := (ag_c1 rfl (ag_c1 rfl (ag_c1 rfl ag_c0)))
    refine ag_iload_n d_Jg_settle_6 rfl ?_
    refine ag_iload_n d_Jg_settle_7 rfl ?_
    refine ag_icmp_ge d_Jg_settle_8 rfl (fun q => ?_) (fun q => ?_)
    · replace hyp := md_ifp q hyp
      exact ag_dr (ag_d1 rfl ag_d0) (w_Jg_settle_67 hC hH hyp)
    · replace hyp := md_ifn q hyp
      refine gc_aload_n (r := (some (a))) d_Jg_settle_11 rfl ?_
      obtain ⟨g5, eg5, hyp⟩ := md_bd hyp
      refine gc_getr (r := (some (a))) d_Jg_settle_12 fr_Jg_14 eg5 ?_
      obtain ⟨g6, eg6, hyp⟩ := md_bd hyp
      refine gc_geti (r := (g5)) d_Jg_settle_15 fr_Jg_59 eg6 ?_
      refine ag_if_ne d_Jg_settle_18 rfl (fun q => ?_) (fun q => ?_)
      · replace hyp := md_ifn q hyp
        exact ag_dr (ag_d1 rfl ag_d0) (w_Jg_settle_67 hC hH hyp)
      · replace hyp := md_ifp q hyp
        refine gc_aload_n (r := (some (a))) d_Jg_settle_21 rfl ?_
        obtain ⟨a9, ea9, hyp⟩ := md_bd hyp
        obtain ⟨r9, er9, hyp⟩ := md_bd hyp
        refine gc_callv (r := (some (a))) (as := []) d_Jg_settle_22 ml_Jg_63 gw_858 rfl sl_Jg_makeRound ea9 (Nat.le_of_ble_eq_true rfl) (w_Jg_makeRound hC (d := d) (by omega) er9) (fun v9 h9 q9 => ?_)
        obtain ⟨rfl, rfl⟩ := q9
        refine gc_aload_n (r := (some (a))) d_Jg_settle_25 rfl ?_
        refine ag_dup d_Jg_settle_26 rfl ?_
        obtain ⟨g12, eg12, hyp⟩ := md_bd hyp
        refine gc_geti (r := (some (a))) d_Jg_settle_27 fr_Jg_40 eg12 ?_
        refine ag_iconst d_Jg_settle_30 ?_
        refine ag_iadd d_Jg_settle_31 ?_
        obtain ⟨h15, eh15, hyp⟩ := md_bd hyp
        refine gc_putf (r := (some (a))) d_Jg_settle_32 fl_Jg_40 (fun q => by cases q) eh15 ?_
        refine gc_aload_n (r := (some (a))) d_Jg_settle_35 rfl ?_
        obtain ⟨g17, eg17, hyp⟩ := md_bd hyp
        refine gc_getr (r := (some (a))) d_Jg_settle_36 fr_Jg_14 eg17 ?_
        obtain ⟨g18, eg18, hyp⟩ := md_bd hyp
        refine gc_geti (r := (g17)) d_Jg_settle_39 fr_Jg_47 eg18 ?_
        refine gc_aload_n (r := (some (a))) d_Jg_settle_42 rfl ?_
        obtain ⟨g20, eg20, hyp⟩ := md_bd hyp
        refine gc_geti (r := (some (a))) d_Jg_settle_43 fr_Jg_66 eg20 ?_
        refine ag_icmp_ne d_Jg_settle_46 rfl (fun q => ?_) (fun q => ?_)
        · replace hyp := md_ifn q hyp
          exact ag_dr (ag_d1 rfl (ag_d1 rfl (ag_d1 rfl ag_d0))) (w_Jg_settle_61 hC hH ih hyp)
        · replace hyp := md_ifp q hyp
          refine gc_aload_n (r := (some (a))) d_Jg_settle_49 rfl ?_
          obtain ⟨g23, eg23, hyp⟩ := md_bd hyp
          refine gc_getr (r := (some (a))) d_Jg_settle_50 fr_Jg_14 eg23 ?_
          obtain ⟨g24, eg24, hyp⟩ := md_bd hyp
          refine gc_geti (r := (g23)) d_Jg_settle_53 fr_Jg_59 eg24 ?_
          refine ag_if_ne d_Jg_settle_56 rfl (fun q => ?_) (fun q => ?_)
          · replace hyp := md_ifn q hyp
            exact ag_dr (ag_d1 rfl (ag_d1 rfl (ag_d1 rfl ag_d0))) (w_Jg_settle_61 hC hH ih hyp)
          · replace hyp := md_ifp q hyp
            refine ag_iconst d_Jg_settle_59 ?_
            obtain ⟨q27, hyp⟩ := md_ifs hyp
            cases hyp
            exact ag_iret d_Jg_settle_60 rfl (md_01n q27) ⟨rfl, rfl⟩
theorem w_Jg_settle_0 {l : Launch} {G : ag_G} {d N : Nat} {C : Nat × Nat} {a : Nat} (hC : ag_cN G = C.1 ∧ ag_cS G = C.2) (hH : 17 ≤ d) {x1 : Int32} {h : ag_H} {res : (Int32) × ag_H} (hyp : fn_Jg_settle_0 N C a x1 h = some res) : ag_ev gc_P l G m_Jg_settle (d + 1) (ag_ret gc_P G (fun v h' => v = some (.int res.1) ∧ h' = res.2)) 0 [(0, .ref a), (1, .int (x1))] [] h := by
  unfold fn_Jg_settle_0 at hyp
  have hc : ag_C1 [(0, .ref a), (1, .int (x1))] := (ag_c1 rfl (ag_c1 rfl ag_c0))
  refine gc_aload_n (r := (some (a))) d_Jg_settle_0 rfl ?_
  obtain ⟨a2, ea2, hyp⟩ := md_bd hyp
  obtain ⟨r2, er2, hyp⟩ := md_bd hyp
  refine gc_callv (r := (some (a))) (as := []) d_Jg_settle_1 ml_Jg_56 gw_845 rfl sl_Jg_layFacts ea2 (Nat.le_of_ble_eq_true rfl) (w_Jg_layFacts hC (d := d) (by omega) er2) (fun v2 h2 q2 => ?_)
  obtain ⟨rfl, rfl⟩ := q2
  refine ag_iconst d_Jg_settle_4 ?_
  refine gc_istore_n d_Jg_settle_5 (by decide) hc ?_
  replace hc := ag_cs (i := 2) (v := .int (Int32.ofInt 0)) hc rfl
  exact ag_dr (ag_d1 rfl (ag_d1 rfl (ag_d1 rfl ag_d0))) (w_Jg_settle_6 hC hH N _ _ _ _ hyp)
theorem w_Jg_settle {l : Launch} {G : ag_G} {d N : Nat} {C : Nat × Nat} (hC : ag_cN G = C.1 ∧ ag_cS G = C.2) (hH : 17 + 1 ≤ d) {a : Nat} {p1 : Int32} {h : ag_H} {res : (Int32) × ag_H} (hyp : fn_Jg_settle N C a p1 h = some res) : ag_Met gc_P l G m_Jg_settle d [.ref a, .int (p1)] h (fun v h' => v = some (.int res.1) ∧ h' = res.2) := by
  obtain ⟨d, rfl, hG⟩ := md_dd hH
  exact ag_met (by decide) rfl (Nat.le_of_ble_eq_true rfl) (ag_dr (ag_d1 rfl (ag_d1 rfl ag_d0)) (w_Jg_settle_0 hC hG hyp))
def fn_Jg_lookAtChecks_142 (N : Nat) (C : Nat × Nat) (a : Nat) (k6 : Int32 → Int32 → Int32 → ag_H → Option ((Int32) × ag_H)) (k25 : Int32 → Int32 → Int32 → Option Nat → Int32 → ag_H → Option ((Int32) × ag_H)) (x1 : Int32) (x2 : Int32) (x3 : Int32) (x4 : Option Nat) (x5 : Int32) (h : ag_H) : Option ((Int32) × ag_H) := k25 (x1) (x2) (x3) (x4) ((x5) + Int32.ofInt (1)) h
def fn_Jg_lookAtChecks_139 (N : Nat) (C : Nat × Nat) (a : Nat) (k6 : Int32 → Int32 → Int32 → ag_H → Option ((Int32) × ag_H)) (k25 : Int32 → Int32 → Int32 → Option Nat → Int32 → ag_H → Option ((Int32) × ag_H)) (x1 : Int32) (x2 : Int32) (x3 : Int32) (x4 : Option Nat) (x5 : Int32) (h : ag_H) : Option ((Int32) × ag_H) := fn_Jg_lookAtChecks_142 N C a k6 k25 (x1) ((x2) + Int32.ofInt (1)) (x3) (x4) (x5) h
def fn_Jg_lookAtChecks_114 (N : Nat) (C : Nat × Nat) (a : Nat) (k6 : Int32 → Int32 → Int32 → ag_H → Option ((Int32) × ag_H)) (k25 : Int32 → Int32 → Int32 → Option Nat → Int32 → ag_H → Option ((Int32) × ag_H)) (x1 : Int32) (x2 : Int32) (x3 : Int32) (x4 : Option Nat) (x5 : Int32) (s0 : Int32) (h : ag_H) : Option ((Int32) × ag_H) := if (s0) = (0) then (if ((Int8.ofInt (31)).toInt32) ≤ (x2) then (fn_Jg_lookAtChecks_139 N C a k6 k25 (x1) (x2) (x3) (x4) (x5) h) else ((ag_gi h (some (a)) 3 5).bind fun g9 => (ag_pf h (ag_rf (some (a))) 3 5 .int (.int ((g9) ||| ((Int32.ofInt 1) <<< ((x2) &&& 31))))).bind fun h14 => fn_Jg_lookAtChecks_139 N C a k6 k25 (x1) (x2) (x3) (x4) (x5) h14)) else (fn_Jg_lookAtChecks_139 N C a k6 k25 (x1) (x2) (x3) (x4) (x5) h)
def fn_Jg_lookAtChecks_113 (N : Nat) (C : Nat × Nat) (a : Nat) (k6 : Int32 → Int32 → Int32 → ag_H → Option ((Int32) × ag_H)) (k25 : Int32 → Int32 → Int32 → Option Nat → Int32 → ag_H → Option ((Int32) × ag_H)) (x1 : Int32) (x2 : Int32) (x3 : Int32) (x4 : Option Nat) (x5 : Int32) (h : ag_H) : Option ((Int32) × ag_H) := fn_Jg_lookAtChecks_114 N C a k6 k25 (x1) (x2) (x3) (x4) (x5) (Int32.ofInt 0) h
def fn_Jg_lookAtChecks_109 (N : Nat) (C : Nat × Nat) (a : Nat) (k6 : Int32 → Int32 → Int32 → ag_H → Option ((Int32) × ag_H)) (k25 : Int32 → Int32 → Int32 → Option Nat → Int32 → ag_H → Option ((Int32) × ag_H)) (x1 : Int32) (x2 : Int32) (x3 : Int32) (x4 : Option Nat) (x5 : Int32) (h : ag_H) : Option ((Int32) × ag_H) := fn_Jg_lookAtChecks_114 N C a k6 k25 (x1) (x2) (x3) (x4) (x5) (Int32.ofInt 1) h
def fn_Jg_lookAtChecks_72 (N : Nat) (C : Nat × Nat) (a : Nat) (k6 : Int32 → Int32 → Int32 → ag_H → Option ((Int32) × ag_H)) (k25 : Int32 → Int32 → Int32 → Option Nat → Int32 → ag_H → Option ((Int32) × ag_H)) (x1 : Int32) (x2 : Int32) (x3 : Int32) (x4 : Option Nat) (x5 : Int32) (x6 : Option Nat) (h : ag_H) : Option ((Int32) × ag_H) := (ag_rc h (some (a)) 3).bind fun a4 => (fn_Jg_search N C a4 (x6) (x3) h).bind fun r4 => (ag_gi r4.2 (some (a)) 3 13).bind fun g7 => (ag_gi r4.2 (some (a)) 3 11).bind fun g11 => if (g11) = (0) then (fn_Jg_lookAtChecks_113 N C a k6 k25 ((x1) ||| (g7)) (x2) (x3) (x4) (x5) r4.2) else ((ag_gi r4.2 (x6) 7 0).bind fun g14 => if (g14) = (Int32.ofInt 2) then (fn_Jg_lookAtChecks_109 N C a k6 k25 ((x1) ||| (g7)) (x2) (x3) (x4) (x5) r4.2) else ((ag_gi r4.2 (some (a)) 3 12).bind fun g18 => if (g18) = (0) then (fn_Jg_lookAtChecks_109 N C a k6 k25 ((x1) ||| (g7)) (x2) (x3) (x4) (x5) r4.2) else (fn_Jg_lookAtChecks_113 N C a k6 k25 ((x1) ||| (g7)) (x2) (x3) (x4) (x5) r4.2)))
def fn_Jg_lookAtChecks_25 (N : Nat) (C : Nat × Nat) (a : Nat) (k6 : Int32 → Int32 → Int32 → ag_H → Option ((Int32) × ag_H)) : Nat → Int32 → Int32 → Int32 → Option Nat → Int32 → ag_H → Option ((Int32) × ag_H)
  | 0, _, _, _, _, _, _ => none
  | n + 1, x1, x2, x3, x4, x5, h => (ag_rc h (x4) 11).bind fun a3 => (fn_AL_size N C a3  h).bind fun r3 => if (r3.1) ≤ (x5) then (k6 (x1) (x2) ((x3) + Int32.ofInt (1)) r3.2) else ((ag_rc r3.2 (x4) 11).bind fun a9 => (fn_AL_get N C a9 (x5) r3.2).bind fun r9 => if ag_ck r9.2 (r9.1) 7 = true then ((ag_gi r9.2 ((r9.1)) 7 0).bind fun g13 => if (g13) = (Int32.ofInt 2) then (fn_Jg_lookAtChecks_72 N C a k6 (fn_Jg_lookAtChecks_25 N C a k6 n) (x1) (x2) (x3) (x4) (x5) ((r9.1)) r9.2) else ((ag_gi r9.2 ((r9.1)) 7 0).bind fun g17 => if (g17) = (Int32.ofInt 3) then (fn_Jg_lookAtChecks_72 N C a k6 (fn_Jg_lookAtChecks_25 N C a k6 n) (x1) (x2) (x3) (x4) (x5) ((r9.1)) r9.2) else (fn_Jg_lookAtChecks_142 N C a k6 (fn_Jg_lookAtChecks_25 N C a k6 n) (x1) (x2) (x3) (x4) (x5) r9.2))) else none)
theorem fe_Jg_lookAtChecks_25 (N : Nat) (C : Nat × Nat) (a : Nat) (k6 : Int32 → Int32 → Int32 → ag_H → Option ((Int32) × ag_H)) (n : Nat) (x1 : Int32) (x2 : Int32) (x3 : Int32) (x4 : Option Nat) (x5 : Int32) (h : ag_H) : fn_Jg_lookAtChecks_25 N C a k6 (n + 1) x1 x2 x3 x4 x5 h = ((ag_rc h (x4) 11).bind fun a3 => (fn_AL_size N C a3  h).bind fun r3 => if (r3.1) ≤ (x5) then (k6 (x1) (x2) ((x3) + Int32.ofInt (1)) r3.2) else ((ag_rc r3.2 (x4) 11).bind fun a9 => (fn_AL_get N C a9 (x5) r3.2).bind fun r9 => if ag_ck r9.2 (r9.1) 7 = true then ((ag_gi r9.2 ((r9.1)) 7 0).bind fun g13 => if (g13) = (Int32.ofInt 2) then (fn_Jg_lookAtChecks_72 N C a k6 (fn_Jg_lookAtChecks_25 N C a k6 n) (x1) (x2) (x3) (x4) (x5) ((r9.1)) r9.2) else ((ag_gi r9.2 ((r9.1)) 7 0).bind fun g17 => if (g17) = (Int32.ofInt 3) then (fn_Jg_lookAtChecks_72 N C a k6 (fn_Jg_lookAtChecks_25 N C a k6 n) (x1) (x2) (x3) (x4) (x5) ((r9.1)) r9.2) else (fn_Jg_lookAtChecks_142 N C a k6 (fn_Jg_lookAtChecks_25 N C a k6 n) (x1) (x2) (x3) (x4) (x5) r9.2))) else none)) := rfl
def fn_Jg_lookAtChecks_6 (N : Nat) (C : Nat × Nat) (a : Nat) : Nat → Int32 → Int32 → Int32 → ag_H → Option ((Int32) × ag_H)
  | 0, _, _, _, _ => none
  | n + 1, x1, x2, x3, h => if (Int32.ofInt 5) ≤ (x3) then (if md_01 (x1) = true then (some ((x1), h)) else none) else ((ag_gr h (some (a)) 3 2).bind fun g7 => (ag_ao h (g7)).bind fun p9 => if md_in (x3) p9.1 = true then ((ag_gr h (p9.2 (x3).toNatClampNeg) 5 0).bind fun g10 => fn_Jg_lookAtChecks_25 N C a (fn_Jg_lookAtChecks_6 N C a n) N (x1) (x2) (x3) ((g10)) (Int32.ofInt 0) h) else none)
theorem fe_Jg_lookAtChecks_6 (N : Nat) (C : Nat × Nat) (a : Nat) (n : Nat) (x1 : Int32) (x2 : Int32) (x3 : Int32) (h : ag_H) : fn_Jg_lookAtChecks_6 N C a (n + 1) x1 x2 x3 h = (if (Int32.ofInt 5) ≤ (x3) then (if md_01 (x1) = true then (some ((x1), h)) else none) else ((ag_gr h (some (a)) 3 2).bind fun g7 => (ag_ao h (g7)).bind fun p9 => if md_in (x3) p9.1 = true then ((ag_gr h (p9.2 (x3).toNatClampNeg) 5 0).bind fun g10 => fn_Jg_lookAtChecks_25 N C a (fn_Jg_lookAtChecks_6 N C a n) N (x1) (x2) (x3) ((g10)) (Int32.ofInt 0) h) else none)) := rfl
def fn_Jg_lookAtChecks_0 (N : Nat) (C : Nat × Nat) (a : Nat) (h : ag_H) : Option ((Int32) × ag_H) := fn_Jg_lookAtChecks_6 N C a N (Int32.ofInt 0) (Int32.ofInt 0) (Int32.ofInt 0) h
def fn_Jg_lookAtChecks (N : Nat) (C : Nat × Nat) (a : Nat) (h : ag_H) : Option ((Int32) × ag_H) := fn_Jg_lookAtChecks_0 N C a h
theorem w_Jg_lookAtChecks_142 {l : Launch} {G : ag_G} {d N : Nat} {C : Nat × Nat} {a : Nat} (hC : ag_cN G = C.1 ∧ ag_cS G = C.2) (hH : 16 ≤ d) {k6 : Int32 → Int32 → Int32 → ag_H → Option ((Int32) × ag_H)} {k25 : Int32 → Int32 → Int32 → Option Nat → Int32 → ag_H → Option ((Int32) × ag_H)} (hk6 : ∀ (res : (Int32) × ag_H) (y1 : Int32) (y2 : Int32) (y3 : Int32) (hh : ag_H), k6 y1 y2 y3 hh = some res → ag_ev gc_P l G m_Jg_lookAtChecks (d + 1) (ag_ret gc_P G (fun v h' => v = some (.int res.1) ∧ h' = res.2)) 6 [(0, .ref a), (1, .int (y1)), (2, .int (y2)), (3, .int (y3))] [] hh) (hk25 : ∀ (res : (Int32) × ag_H) (y1 : Int32) (y2 : Int32) (y3 : Int32) (y4 : Option Nat) (y5 : Int32) (hh : ag_H), k25 y1 y2 y3 y4 y5 hh = some res → ag_ev gc_P l G m_Jg_lookAtChecks (d + 1) (ag_ret gc_P G (fun v h' => v = some (.int res.1) ∧ h' = res.2)) 25 [(0, .ref a), (1, .int (y1)), (2, .int (y2)), (3, .int (y3)), (4, ag_rf (y4)), (5, .int (y5))] [] hh) {x1 : Int32} {x2 : Int32} {x3 : Int32} {x4 : Option Nat} {x5 : Int32} {h : ag_H} {res : (Int32) × ag_H} (hyp : fn_Jg_lookAtChecks_142 N C a k6 k25 x1 x2 x3 x4 x5 h = some res) : ag_ev gc_P l G m_Jg_lookAtChecks (d + 1) (ag_ret gc_P G (fun v h' => v = some (.int res.1) ∧ h' = res.2)) 142 [(0, .ref a), (1, .int (x1)), (2, .int (x2)), (3, .int (x3)), (4, ag_rf (x4)), (5, .int (x5))] [] h := by
  unfold fn_Jg_lookAtChecks_142 at hyp
  have hc : ag_C1 [(0, .ref a), (1, .int (x1)), (2, .int (x2)), (3, .int (x3)), (4, ag_rf (x4)), (5, .int (x5))] := (ag_c1 rfl (ag_c1 rfl (ag_c1 rfl (ag_c1 rfl (ag_c1 (ag_cat_rf _) (ag_c1 rfl ag_c0))))))
  refine gc_iinc d_Jg_lookAtChecks_142 rfl (by decide) hc ?_
  replace hc := ag_cs (i := 5) (v := .int ((x5) + Int32.ofInt (1))) hc rfl
  refine ag_goto d_Jg_lookAtChecks_145 rfl ?_
  exact ag_dr (ag_d1 rfl (ag_d1 rfl (ag_d1 rfl (ag_d1 rfl (ag_d1 rfl (ag_d1 rfl ag_d0)))))) (hk25 _ _ _ _ _ _ _ hyp)
theorem w_Jg_lookAtChecks_139 {l : Launch} {G : ag_G} {d N : Nat} {C : Nat × Nat} {a : Nat} (hC : ag_cN G = C.1 ∧ ag_cS G = C.2) (hH : 16 ≤ d) {k6 : Int32 → Int32 → Int32 → ag_H → Option ((Int32) × ag_H)} {k25 : Int32 → Int32 → Int32 → Option Nat → Int32 → ag_H → Option ((Int32) × ag_H)} (hk6 : ∀ (res : (Int32) × ag_H) (y1 : Int32) (y2 : Int32) (y3 : Int32) (hh : ag_H), k6 y1 y2 y3 hh = some res → ag_ev gc_P l G m_Jg_lookAtChecks (d + 1) (ag_ret gc_P G (fun v h' => v = some (.int res.1) ∧ h' = res.2)) 6 [(0, .ref a), (1, .int (y1)), (2, .int (y2)), (3, .int (y3))] [] hh) (hk25 : ∀ (res : (Int32) × ag_H) (y1 : Int32) (y2 : Int32) (y3 : Int32) (y4 : Option Nat) (y5 : Int32) (hh : ag_H), k25 y1 y2 y3 y4 y5 hh = some res → ag_ev gc_P l G m_Jg_lookAtChecks (d + 1) (ag_ret gc_P G (fun v h' => v = some (.int res.1) ∧ h' = res.2)) 25 [(0, .ref a), (1, .int (y1)), (2, .int (y2)), (3, .int (y3)), (4, ag_rf (y4)), (5, .int (y5))] [] hh) {x1 : Int32} {x2 : Int32} {x3 : Int32} {x4 : Option Nat} {x5 : Int32} {h : ag_H} {res : (Int32) × ag_H} (hyp : fn_Jg_lookAtChecks_139 N C a k6 k25 x1 x2 x3 x4 x5 h = some res) : ag_ev gc_P l G m_Jg_lookAtChecks (d + 1) (ag_ret gc_P G (fun v h' => v = some (.int res.1) ∧ h' = res.2)) 139 [(0, .ref a), (1, .int (x1)), (2, .int (x2)), (3, .int (x3)), (4, ag_rf (x4)), (5, .int (x5))] [] h := by
  unfold fn_Jg_lookAtChecks_139 at hyp
  have hc : ag_C1 [(0, .ref a), (1, .int (x1)), (2, .int (x2)), (3, .int (x3)), (4, ag_rf (x4)), (5, .int (x5))] := (ag_c1 rfl (ag_c1 rfl (ag_c1 rfl (ag_c1 rfl (ag_c1 (ag_cat_rf _) (ag_c1 rfl ag_c0))))))
  refine gc_iinc d_Jg_lookAtChecks_139 rfl (by decide) hc ?_
  replace hc := ag_cs (i := 2) (v := .int ((x2) + Int32.ofInt (1))) hc rfl
  exact ag_dr (ag_d1 rfl (ag_d1 rfl (ag_d1 rfl (ag_d1 rfl (ag_d1 rfl (ag_d1 rfl ag_d0)))))) (w_Jg_lookAtChecks_142 hC hH hk6 hk25 hyp)
theorem w_Jg_lookAtChecks_114 {l : Launch} {G : ag_G} {d N : Nat} {C : Nat × Nat} {a : Nat} (hC : ag_cN G = C.1 ∧ ag_cS G = C.2) (hH : 16 ≤ d) {k6 : Int32 → Int32 → Int32 → ag_H → Option ((Int32) × ag_H)} {k25 : Int32 → Int32 → Int32 → Option Nat → Int32 → ag_H → Option ((Int32) × ag_H)} (hk6 : ∀ (res : (Int32) × ag_H) (y1 : Int32) (y2 : Int32) (y3 : Int32) (hh : ag_H), k6 y1 y2 y3 hh = some res → ag_ev gc_P l G m_Jg_lookAtChecks (d + 1) (ag_ret gc_P G (fun v h' => v = some (.int res.1) ∧ h' = res.2)) 6 [(0, .ref a), (1, .int (y1)), (2, .int (y2)), (3, .int (y3))] [] hh) (hk25 : ∀ (res : (Int32) × ag_H) (y1 : Int32) (y2 : Int32) (y3 : Int32) (y4 : Option Nat) (y5 : Int32) (hh : ag_H), k25 y1 y2 y3 y4 y5 hh = some res → ag_ev gc_P l G m_Jg_lookAtChecks (d + 1) (ag_ret gc_P G (fun v h' => v = some (.int res.1) ∧ h' = res.2)) 25 [(0, .ref a), (1, .int (y1)), (2, .int (y2)), (3, .int (y3)), (4, ag_rf (y4)), (5, .int (y5))] [] hh) {x1 : Int32} {x2 : Int32} {x3 : Int32} {x4 : Option Nat} {x5 : Int32} {s0 : Int32} {h : ag_H} {res : (Int32) × ag_H} (hyp : fn_Jg_lookAtChecks_114 N C a k6 k25 x1 x2 x3 x4 x5 s0 h = some res) : ag_ev gc_P l G m_Jg_lookAtChecks (d + 1) (ag_ret gc_P G (fun v h' => v = some (.int res.1) ∧ h' = res.2)) 114 [(0, .ref a), (1, .int (x1)), (2, .int (x2)), (3, .int (x3)), (4, ag_rf (x4)), (5, .int (x5))] [.int (s0)] h := by
  unfold fn_Jg_lookAtChecks_114 at hyp
  have hc : ag_C1 [(0, .ref a), (1, .int (x1)), (2, .int (x2)), (3, .int (x3)), (4, ag_rf (x4)), (5, .int (x5))] := (ag_c1 rfl (ag_c1 rfl (ag_c1 rfl (ag_c1 rfl (ag_c1 (ag_cat_rf _) (ag_c1 rfl ag_c0))))))
  refine gc_istore d_Jg_lookAtChecks_114 (by decide) hc ?_
  replace hc := ag_cs (i := 7) (v := .int (s0)) hc rfl
  refine ag_iload d_Jg_lookAtChecks_116 rfl ?_
  refine ag_if_ne d_Jg_lookAtChecks_118 rfl (fun q => ?_) (fun q => ?_)
  · replace hyp := md_ifn q hyp
    exact ag_dr (ag_d1 rfl (ag_d1 rfl (ag_d1 rfl (ag_d1 rfl (ag_d1 rfl (ag_d1 rfl ag_d0)))))) (w_Jg_lookAtChecks_139 hC hH hk6 hk25 hyp)
  · replace hyp := md_ifp q hyp
    refine ag_iload_n d_Jg_lookAtChecks_121 rfl ?_
    refine ag_bipush d_Jg_lookAtChecks_122 ?_
    refine ag_icmp_ge d_Jg_lookAtChecks_124 rfl (fun q => ?_) (fun q => ?_)
    · replace hyp := md_ifp q hyp
      exact ag_dr (ag_d1 rfl (ag_d1 rfl (ag_d1 rfl (ag_d1 rfl (ag_d1 rfl (ag_d1 rfl ag_d0)))))) (w_Jg_lookAtChecks_139 hC hH hk6 hk25 hyp)
    · replace hyp := md_ifn q hyp
      refine gc_aload_n (r := (some (a))) d_Jg_lookAtChecks_127 rfl ?_
      refine ag_dup d_Jg_lookAtChecks_128 rfl ?_
      obtain ⟨g9, eg9, hyp⟩ := md_bd hyp
      refine gc_geti (r := (some (a))) d_Jg_lookAtChecks_129 fr_Jg_44 eg9 ?_
      refine ag_iconst d_Jg_lookAtChecks_132 ?_
      refine ag_iload_n d_Jg_lookAtChecks_133 rfl ?_
      refine ag_ishl d_Jg_lookAtChecks_134 ?_
      refine ag_ior d_Jg_lookAtChecks_135 ?_
      obtain ⟨h14, eh14, hyp⟩ := md_bd hyp
      refine gc_putf (r := (some (a))) d_Jg_lookAtChecks_136 fl_Jg_44 (fun q => by cases q) eh14 ?_
      exact ag_dr (ag_d1 rfl (ag_d1 rfl (ag_d1 rfl (ag_d1 rfl (ag_d1 rfl (ag_d1 rfl ag_d0)))))) (w_Jg_lookAtChecks_139 hC hH hk6 hk25 hyp)
theorem w_Jg_lookAtChecks_113 {l : Launch} {G : ag_G} {d N : Nat} {C : Nat × Nat} {a : Nat} (hC : ag_cN G = C.1 ∧ ag_cS G = C.2) (hH : 16 ≤ d) {k6 : Int32 → Int32 → Int32 → ag_H → Option ((Int32) × ag_H)} {k25 : Int32 → Int32 → Int32 → Option Nat → Int32 → ag_H → Option ((Int32) × ag_H)} (hk6 : ∀ (res : (Int32) × ag_H) (y1 : Int32) (y2 : Int32) (y3 : Int32) (hh : ag_H), k6 y1 y2 y3 hh = some res → ag_ev gc_P l G m_Jg_lookAtChecks (d + 1) (ag_ret gc_P G (fun v h' => v = some (.int res.1) ∧ h' = res.2)) 6 [(0, .ref a), (1, .int (y1)), (2, .int (y2)), (3, .int (y3))] [] hh) (hk25 : ∀ (res : (Int32) × ag_H) (y1 : Int32) (y2 : Int32) (y3 : Int32) (y4 : Option Nat) (y5 : Int32) (hh : ag_H), k25 y1 y2 y3 y4 y5 hh = some res → ag_ev gc_P l G m_Jg_lookAtChecks (d + 1) (ag_ret gc_P G (fun v h' => v = some (.int res.1) ∧ h' = res.2)) 25 [(0, .ref a), (1, .int (y1)), (2, .int (y2)), (3, .int (y3)), (4, ag_rf (y4)), (5, .int (y5))] [] hh) {x1 : Int32} {x2 : Int32} {x3 : Int32} {x4 : Option Nat} {x5 : Int32} {h : ag_H} {res : (Int32) × ag_H} (hyp : fn_Jg_lookAtChecks_113 N C a k6 k25 x1 x2 x3 x4 x5 h = some res) : ag_ev gc_P l G m_Jg_lookAtChecks (d + 1) (ag_ret gc_P G (fun v h' => v = some (.int res.1) ∧ h' = res.2)) 113 [(0, .ref a), (1, .int (x1)), (2, .int (x2)), (3, .int (x3)), (4, ag_rf (x4)), (5, .int (x5))] [] h := by
  unfold fn_Jg_lookAtChecks_113 at hyp
  have hc : ag_C1 [(0, .ref a), (1, .int (x1)), (2, .int (x2)), (3, .int (x3)), (4, ag_rf (x4)), (5, .int (x5))] := (ag_c1 rfl (ag_c1 rfl (ag_c1 rfl (ag_c1 rfl (ag_c1 (ag_cat_rf _) (ag_c1 rfl ag_c0))))))
  refine ag_iconst d_Jg_lookAtChecks_113 ?_
  exact ag_dr (ag_d1 rfl (ag_d1 rfl (ag_d1 rfl (ag_d1 rfl (ag_d1 rfl (ag_d1 rfl ag_d0)))))) (w_Jg_lookAtChecks_114 hC hH hk6 hk25 hyp)
theorem w_Jg_lookAtChecks_109 {l : Launch} {G : ag_G} {d N : Nat} {C : Nat × Nat} {a : Nat} (hC : ag_cN G = C.1 ∧ ag_cS G = C.2) (hH : 16 ≤ d) {k6 : Int32 → Int32 → Int32 → ag_H → Option ((Int32) × ag_H)} {k25 : Int32 → Int32 → Int32 → Option Nat → Int32 → ag_H → Option ((Int32) × ag_H)} (hk6 : ∀ (res : (Int32) × ag_H) (y1 : Int32) (y2 : Int32) (y3 : Int32) (hh : ag_H), k6 y1 y2 y3 hh = some res → ag_ev gc_P l G m_Jg_lookAtChecks (d + 1) (ag_ret gc_P G (fun v h' => v = some (.int res.1) ∧ h' = res.2)) 6 [(0, .ref a), (1, .int (y1)), (2, .int (y2)), (3, .int (y3))] [] hh) (hk25 : ∀ (res : (Int32) × ag_H) (y1 : Int32) (y2 : Int32) (y3 : Int32) (y4 : Option Nat) (y5 : Int32) (hh : ag_H), k25 y1 y2 y3 y4 y5 hh = some res → ag_ev gc_P l G m_Jg_lookAtChecks (d + 1) (ag_ret gc_P G (fun v h' => v = some (.int res.1) ∧ h' = res.2)) 25 [(0, .ref a), (1, .int (y1)), (2, .int (y2)), (3, .int (y3)), (4, ag_rf (y4)), (5, .int (y5))] [] hh) {x1 : Int32} {x2 : Int32} {x3 : Int32} {x4 : Option Nat} {x5 : Int32} {h : ag_H} {res : (Int32) × ag_H} (hyp : fn_Jg_lookAtChecks_109 N C a k6 k25 x1 x2 x3 x4 x5 h = some res) : ag_ev gc_P l G m_Jg_lookAtChecks (d + 1) (ag_ret gc_P G (fun v h' => v = some (.int res.1) ∧ h' = res.2)) 109 [(0, .ref a), (1, .int (x1)), (2, .int (x2)), (3, .int (x3)), (4, ag_rf (x4)), (5, .int (x5))] [] h := by
  unfold fn_Jg_lookAtChecks_109 at hyp
  have hc : ag_C1 [(0, .ref a), (1, .int (x1)), (2, .int (x2)), (3, .int (x3)), (4, ag_rf (x4)), (5, .int (x5))] := (ag_c1 rfl (ag_c1 rfl (ag_c1 rfl (ag_c1 rfl (ag_c1 (ag_cat_rf _) (ag_c1 rfl ag_c0))))))
  refine ag_iconst d_Jg_lookAtChecks_109 ?_
  refine ag_goto d_Jg_lookAtChecks_110 rfl ?_
  exact ag_dr (ag_d1 rfl (ag_d1 rfl (ag_d1 rfl (ag_d1 rfl (ag_d1 rfl (ag_d1 rfl ag_d0)))))) (w_Jg_lookAtChecks_114 hC hH hk6 hk25 hyp)
theorem w_Jg_lookAtChecks_72 {l : Launch} {G : ag_G} {d N : Nat} {C : Nat × Nat} {a : Nat} (hC : ag_cN G = C.1 ∧ ag_cS G = C.2) (hH : 16 ≤ d) {k6 : Int32 → Int32 → Int32 → ag_H → Option ((Int32) × ag_H)} {k25 : Int32 → Int32 → Int32 → Option Nat → Int32 → ag_H → Option ((Int32) × ag_H)} (hk6 : ∀ (res : (Int32) × ag_H) (y1 : Int32) (y2 : Int32) (y3 : Int32) (hh : ag_H), k6 y1 y2 y3 hh = some res → ag_ev gc_P l G m_Jg_lookAtChecks (d + 1) (ag_ret gc_P G (fun v h' => v = some (.int res.1) ∧ h' = res.2)) 6 [(0, .ref a), (1, .int (y1)), (2, .int (y2)), (3, .int (y3))] [] hh) (hk25 : ∀ (res : (Int32) × ag_H) (y1 : Int32) (y2 : Int32) (y3 : Int32) (y4 : Option Nat) (y5 : Int32) (hh : ag_H), k25 y1 y2 y3 y4 y5 hh = some res → ag_ev gc_P l G m_Jg_lookAtChecks (d + 1) (ag_ret gc_P G (fun v h' => v = some (.int res.1) ∧ h' = res.2)) 25 [(0, .ref a), (1, .int (y1)), (2, .int (y2)), (3, .int (y3)), (4, ag_rf (y4)), (5, .int (y5))] [] hh) {x1 : Int32} {x2 : Int32} {x3 : Int32} {x4 : Option Nat} {x5 : Int32} {x6 : Option Nat} {h : ag_H} {res : (Int32) × ag_H} (hyp : fn_Jg_lookAtChecks_72 N C a k6 k25 x1 x2 x3 x4 x5 x6 h = some res) : ag_ev gc_P l G m_Jg_lookAtChecks (d + 1) (ag_ret gc_P G (fun v h' => v = some (.int res.1) ∧ h' = res.2)) 72 [(0, .ref a), (1, .int (x1)), (2, .int (x2)), (3, .int (x3)), (4, ag_rf (x4)), (5, .int (x5)), (6, ag_rf (x6))] [] h := by
  unfold fn_Jg_lookAtChecks_72 at hyp
  have hc : ag_C1 [(0, .ref a), (1, .int (x1)), (2, .int (x2)), (3, .int (x3)), (4, ag_rf (x4)), (5, .int (x5)), (6, ag_rf (x6))] := (ag_c1 rfl (ag_c1 rfl (ag_c1 rfl (ag_c1 rfl (ag_c1 (ag_cat_rf _) (ag_c1 rfl (ag_c1 (ag_cat_rf _) ag_c0)))))))
  refine gc_aload_n (r := (some (a))) d_Jg_lookAtChecks_72 rfl ?_
  refine gc_aload (r := (x6)) d_Jg_lookAtChecks_73 rfl ?_
  refine ag_iload_n d_Jg_lookAtChecks_75 rfl ?_
  obtain ⟨a4, ea4, hyp⟩ := md_bd hyp
  obtain ⟨r4, er4, hyp⟩ := md_bd hyp
  refine gc_callv (r := (some (a))) (as := [ag_rf (x6), .int (x3)]) d_Jg_lookAtChecks_76 ml_Jg_113 gw_862 rfl sl_Jg_search ea4 (Nat.le_of_ble_eq_true rfl) (w_Jg_search hC (d := d) (by omega) er4) (fun v4 h4 q4 => ?_)
  obtain ⟨rfl, rfl⟩ := q4
  refine ag_iload_n d_Jg_lookAtChecks_79 rfl ?_
  refine gc_aload_n (r := (some (a))) d_Jg_lookAtChecks_80 rfl ?_
  obtain ⟨g7, eg7, hyp⟩ := md_bd hyp
  refine gc_geti (r := (some (a))) d_Jg_lookAtChecks_81 fr_Jg_117 eg7 ?_
  refine ag_ior d_Jg_lookAtChecks_84 ?_
  refine gc_istore_n d_Jg_lookAtChecks_85 (by decide) hc ?_
  replace hc := ag_cs (i := 1) (v := .int ((x1) ||| (g7))) hc rfl
  refine gc_aload_n (r := (some (a))) d_Jg_lookAtChecks_86 rfl ?_
  obtain ⟨g11, eg11, hyp⟩ := md_bd hyp
  refine gc_geti (r := (some (a))) d_Jg_lookAtChecks_87 fr_Jg_120 eg11 ?_
  refine ag_if_eq d_Jg_lookAtChecks_90 rfl (fun q => ?_) (fun q => ?_)
  · replace hyp := md_ifp q hyp
    exact ag_dr (ag_d1 rfl (ag_d1 rfl (ag_d1 rfl (ag_d1 rfl (ag_d1 rfl (ag_d1 rfl ag_d0)))))) (w_Jg_lookAtChecks_113 hC hH hk6 hk25 hyp)
  · replace hyp := md_ifn q hyp
    refine gc_aload (r := (x6)) d_Jg_lookAtChecks_93 rfl ?_
    obtain ⟨g14, eg14, hyp⟩ := md_bd hyp
    refine gc_geti (r := (x6)) d_Jg_lookAtChecks_95 fr_Jg_94 eg14 ?_
    refine ag_iconst d_Jg_lookAtChecks_98 ?_
    refine ag_icmp_eq d_Jg_lookAtChecks_99 rfl (fun q => ?_) (fun q => ?_)
    · replace hyp := md_ifp q hyp
      exact ag_dr (ag_d1 rfl (ag_d1 rfl (ag_d1 rfl (ag_d1 rfl (ag_d1 rfl (ag_d1 rfl ag_d0)))))) (w_Jg_lookAtChecks_109 hC hH hk6 hk25 hyp)
    · replace hyp := md_ifn q hyp
      refine gc_aload_n (r := (some (a))) d_Jg_lookAtChecks_102 rfl ?_
      obtain ⟨g18, eg18, hyp⟩ := md_bd hyp
      refine gc_geti (r := (some (a))) d_Jg_lookAtChecks_103 fr_Jg_123 eg18 ?_
      refine ag_if_ne d_Jg_lookAtChecks_106 rfl (fun q => ?_) (fun q => ?_)
      · replace hyp := md_ifn q hyp
        exact ag_dr (ag_d1 rfl (ag_d1 rfl (ag_d1 rfl (ag_d1 rfl (ag_d1 rfl (ag_d1 rfl ag_d0)))))) (w_Jg_lookAtChecks_113 hC hH hk6 hk25 hyp)
      · replace hyp := md_ifp q hyp
        exact ag_dr (ag_d1 rfl (ag_d1 rfl (ag_d1 rfl (ag_d1 rfl (ag_d1 rfl (ag_d1 rfl ag_d0)))))) (w_Jg_lookAtChecks_109 hC hH hk6 hk25 hyp)
theorem w_Jg_lookAtChecks_25 {l : Launch} {G : ag_G} {d N : Nat} {C : Nat × Nat} {a : Nat} (hC : ag_cN G = C.1 ∧ ag_cS G = C.2) (hH : 16 ≤ d) {k6 : Int32 → Int32 → Int32 → ag_H → Option ((Int32) × ag_H)} (hk6 : ∀ (res : (Int32) × ag_H) (y1 : Int32) (y2 : Int32) (y3 : Int32) (hh : ag_H), k6 y1 y2 y3 hh = some res → ag_ev gc_P l G m_Jg_lookAtChecks (d + 1) (ag_ret gc_P G (fun v h' => v = some (.int res.1) ∧ h' = res.2)) 6 [(0, .ref a), (1, .int (y1)), (2, .int (y2)), (3, .int (y3))] [] hh) : ∀ (n : Nat) (res : (Int32) × ag_H) (x1 : Int32) (x2 : Int32) (x3 : Int32) (x4 : Option Nat) (x5 : Int32) (h : ag_H) , fn_Jg_lookAtChecks_25 N C a k6 n x1 x2 x3 x4 x5 h = some res → ag_ev gc_P l G m_Jg_lookAtChecks (d + 1) (ag_ret gc_P G (fun v h' => v = some (.int res.1) ∧ h' = res.2)) 25 [(0, .ref a), (1, .int (x1)), (2, .int (x2)), (3, .int (x3)), (4, ag_rf (x4)), (5, .int (x5))] [] h := by
  intro n
  induction n with
  | zero =>
    intro res x1 x2 x3 x4 x5 h hyp
    cases hyp
  | succ n ih =>
    intro res x1 x2 x3 x4 x5 h hyp
    rw [fe_Jg_lookAtChecks_25] at hyp
    have hc : ag_C1 [(0, .ref a), (1, .int (x1)), (2, .int (x2)), (3, .int (x3)), (4, ag_rf (x4)), (5, .int (x5))] := (ag_c1 rfl (ag_c1 rfl (ag_c1 rfl (ag_c1 rfl (ag_c1 (ag_cat_rf _) (ag_c1 rfl ag_c0))))))
    refine ag_iload d_Jg_lookAtChecks_25 rfl ?_
    refine gc_aload (r := (x4)) d_Jg_lookAtChecks_27 rfl ?_
    obtain ⟨a3, ea3, hyp⟩ := md_bd hyp
    obtain ⟨r3, er3, hyp⟩ := md_bd hyp
    refine gc_callf (r := (x4)) (as := []) d_Jg_lookAtChecks_29 il_Jg_84 ea3 (Nat.le_of_ble_eq_true rfl) (w_AL_size hC (d := d) (by omega) er3) (fun v3 h3 q3 => ?_)
    obtain ⟨rfl, rfl⟩ := q3
    refine ag_icmp_ge d_Jg_lookAtChecks_34 rfl (fun q => ?_) (fun q => ?_)
    · replace hyp := md_ifp q hyp
      refine gc_iinc d_Jg_lookAtChecks_148 rfl (by decide) hc ?_
      replace hc := ag_cs (i := 3) (v := .int ((x3) + Int32.ofInt (1))) hc rfl
      refine ag_goto d_Jg_lookAtChecks_151 rfl ?_
      exact ag_dr (ag_d1 rfl (ag_d1 rfl (ag_d1 rfl (ag_d1 rfl ag_d0)))) (hk6 _ _ _ _ _ hyp)
    · replace hyp := md_ifn q hyp
      refine gc_aload (r := (x4)) d_Jg_lookAtChecks_37 rfl ?_
      refine ag_iload d_Jg_lookAtChecks_39 rfl ?_
      obtain ⟨a9, ea9, hyp⟩ := md_bd hyp
      obtain ⟨r9, er9, hyp⟩ := md_bd hyp
      refine gc_callf (r := (x4)) (as := [.int (x5)]) d_Jg_lookAtChecks_41 il_Jg_88 ea9 (Nat.le_of_ble_eq_true rfl) (w_AL_get hC (d := d) (by omega) er9) (fun v9 h9 q9 => ?_)
      obtain ⟨rfl, rfl⟩ := q9
      obtain ⟨q10, hyp⟩ := md_ifs hyp
      refine gc_cast (r := (r9.1)) d_Jg_lookAtChecks_46 gw_851 rfl q10 ?_
      refine gc_astore0 (r := (r9.1)) d_Jg_lookAtChecks_49 (by decide) hc ?_
      replace hc := ag_cs (i := 6) (v := ag_rf (r9.1)) hc (ag_cat_rf _)
      refine gc_aload (r := ((r9.1))) d_Jg_lookAtChecks_51 rfl ?_
      obtain ⟨g13, eg13, hyp⟩ := md_bd hyp
      refine gc_geti (r := ((r9.1))) d_Jg_lookAtChecks_53 fr_Jg_94 eg13 ?_
      refine ag_iconst d_Jg_lookAtChecks_56 ?_
      refine ag_icmp_eq d_Jg_lookAtChecks_57 rfl (fun q => ?_) (fun q => ?_)
      · replace hyp := md_ifp q hyp
        exact ag_dr (ag_d1 rfl (ag_d1 rfl (ag_d1 rfl (ag_d1 rfl (ag_d1 rfl (ag_d1 rfl (ag_d1 rfl ag_d0))))))) (w_Jg_lookAtChecks_72 hC hH hk6 ih hyp)
      · replace hyp := md_ifn q hyp
        refine gc_aload (r := ((r9.1))) d_Jg_lookAtChecks_60 rfl ?_
        obtain ⟨g17, eg17, hyp⟩ := md_bd hyp
        refine gc_geti (r := ((r9.1))) d_Jg_lookAtChecks_62 fr_Jg_94 eg17 ?_
        refine ag_iconst d_Jg_lookAtChecks_65 ?_
        refine ag_icmp_eq d_Jg_lookAtChecks_66 rfl (fun q => ?_) (fun q => ?_)
        · replace hyp := md_ifp q hyp
          exact ag_dr (ag_d1 rfl (ag_d1 rfl (ag_d1 rfl (ag_d1 rfl (ag_d1 rfl (ag_d1 rfl (ag_d1 rfl ag_d0))))))) (w_Jg_lookAtChecks_72 hC hH hk6 ih hyp)
        · replace hyp := md_ifn q hyp
          refine ag_goto d_Jg_lookAtChecks_69 rfl ?_
          exact ag_dr (ag_d1 rfl (ag_d1 rfl (ag_d1 rfl (ag_d1 rfl (ag_d1 rfl (ag_d1 rfl ag_d0)))))) (w_Jg_lookAtChecks_142 hC hH hk6 ih hyp)
theorem w_Jg_lookAtChecks_6 {l : Launch} {G : ag_G} {d N : Nat} {C : Nat × Nat} {a : Nat} (hC : ag_cN G = C.1 ∧ ag_cS G = C.2) (hH : 16 ≤ d) : ∀ (n : Nat) (res : (Int32) × ag_H) (x1 : Int32) (x2 : Int32) (x3 : Int32) (h : ag_H) , fn_Jg_lookAtChecks_6 N C a n x1 x2 x3 h = some res → ag_ev gc_P l G m_Jg_lookAtChecks (d + 1) (ag_ret gc_P G (fun v h' => v = some (.int res.1) ∧ h' = res.2)) 6 [(0, .ref a), (1, .int (x1)), (2, .int (x2)), (3, .int (x3))] [] h := by
  intro n
  induction n with
  | zero =>
    intro res x1 x2 x3 h hyp
    cases hyp
  | succ n ih =>
    intro res x1 x2 x3 h hyp
    rw [fe_Jg_lookAtChecks_6] at hyp
    have hc : ag_C1 [(0, .ref a), (1, .int (x1)), (2, .int (x2)), (3, .int (x3))] := (ag_c1 rfl (ag_c1 rfl (ag_c1 rfl (ag_c1 rfl ag_c0))))
    refine ag_iload_n d_Jg_lookAtChecks_6 rfl ?_
    refine ag_iconst d_Jg_lookAtChecks_7 ?_
    refine ag_icmp_ge d_Jg_lookAtChecks_8 rfl (fun q => ?_) (fun q => ?_)
    · replace hyp := md_ifp q hyp
      refine ag_iload_n d_Jg_lookAtChecks_154 rfl ?_
      obtain ⟨q5, hyp⟩ := md_ifs hyp
      cases hyp
      exact ag_iret d_Jg_lookAtChecks_155 rfl (md_01n q5) ⟨rfl, rfl⟩
    · replace hyp := md_ifn q hyp
      refine gc_aload_n (r := (some (a))) d_Jg_lookAtChecks_11 rfl ?_
      obtain ⟨g7, eg7, hyp⟩ := md_bd hyp
      refine gc_getr (r := (some (a))) d_Jg_lookAtChecks_12 fr_Jg_25 eg7 ?_
      refine ag_iload_n d_Jg_lookAtChecks_15 rfl ?_
      obtain ⟨p9, ep9, hyp⟩ := md_bd hyp
      obtain ⟨q9, hyp⟩ := md_ifs hyp
      refine gc_ald (r := (g7)) d_Jg_lookAtChecks_16 ep9 q9 ?_
      obtain ⟨g10, eg10, hyp⟩ := md_bd hyp
      refine gc_getr (r := (p9.2 (x3).toNatClampNeg)) d_Jg_lookAtChecks_17 fr_Jg_80 eg10 ?_
      refine gc_astore0 (r := (g10)) d_Jg_lookAtChecks_20 (by decide) hc ?_
      replace hc := ag_cs (i := 4) (v := ag_rf (g10)) hc (ag_cat_rf _)
      refine ag_iconst d_Jg_lookAtChecks_22 ?_
      refine gc_istore d_Jg_lookAtChecks_23 (by decide) hc ?_
      replace hc := ag_cs (i := 5) (v := .int (Int32.ofInt 0)) hc rfl
      exact ag_dr (ag_d1 rfl (ag_d1 rfl (ag_d1 rfl (ag_d1 rfl (ag_d1 rfl (ag_d1 rfl ag_d0)))))) (w_Jg_lookAtChecks_25 hC hH ih N _ _ _ _ _ _ _ hyp)
theorem w_Jg_lookAtChecks_0 {l : Launch} {G : ag_G} {d N : Nat} {C : Nat × Nat} {a : Nat} (hC : ag_cN G = C.1 ∧ ag_cS G = C.2) (hH : 16 ≤ d) {h : ag_H} {res : (Int32) × ag_H} (hyp : fn_Jg_lookAtChecks_0 N C a h = some res) : ag_ev gc_P l G m_Jg_lookAtChecks (d + 1) (ag_ret gc_P G (fun v h' => v = some (.int res.1) ∧ h' = res.2)) 0 [(0, .ref a)] [] h := by
  unfold fn_Jg_lookAtChecks_0 at hyp
  have hc : ag_C1 [(0, .ref a)] := (ag_c1 rfl ag_c0)
  refine ag_iconst d_Jg_lookAtChecks_0 ?_
  refine gc_istore_n d_Jg_lookAtChecks_1 (by decide) hc ?_
  replace hc := ag_cs (i := 1) (v := .int (Int32.ofInt 0)) hc rfl
  refine ag_iconst d_Jg_lookAtChecks_2 ?_
  refine gc_istore_n d_Jg_lookAtChecks_3 (by decide) hc ?_
  replace hc := ag_cs (i := 2) (v := .int (Int32.ofInt 0)) hc rfl
  refine ag_iconst d_Jg_lookAtChecks_4 ?_
  refine gc_istore_n d_Jg_lookAtChecks_5 (by decide) hc ?_
  replace hc := ag_cs (i := 3) (v := .int (Int32.ofInt 0)) hc rfl
  exact ag_dr (ag_d1 rfl (ag_d1 rfl (ag_d1 rfl (ag_d1 rfl ag_d0)))) (w_Jg_lookAtChecks_6 hC hH N _ _ _ _ _ hyp)
theorem w_Jg_lookAtChecks {l : Launch} {G : ag_G} {d N : Nat} {C : Nat × Nat} (hC : ag_cN G = C.1 ∧ ag_cS G = C.2) (hH : 16 + 1 ≤ d) {a : Nat} {h : ag_H} {res : (Int32) × ag_H} (hyp : fn_Jg_lookAtChecks N C a h = some res) : ag_Met gc_P l G m_Jg_lookAtChecks d [.ref a] h (fun v h' => v = some (.int res.1) ∧ h' = res.2) := by
  obtain ⟨d, rfl, hG⟩ := md_dd hH
  exact ag_met (by decide) rfl (Nat.le_of_ble_eq_true rfl) (ag_dr (ag_d1 rfl ag_d0) (w_Jg_lookAtChecks_0 hC hG hyp))
def fn_Jg_lookAtPolicies_100 (N : Nat) (C : Nat × Nat) (a : Nat) (k14 : Option Nat → Int32 → Int32 → ag_H → Option ((Int32) × ag_H)) (x1 : Option Nat) (x2 : Int32) (x3 : Int32) (h : ag_H) : Option ((Int32) × ag_H) := k14 (x1) (x2) ((x3) + Int32.ofInt (1)) h
def fn_Jg_lookAtPolicies_96 (N : Nat) (C : Nat × Nat) (a : Nat) (s0 : Int32) (h : ag_H) : Option ((Int32) × ag_H) := some ((s0), h)
def fn_Jg_lookAtPolicies_57 (N : Nat) (C : Nat × Nat) (a : Nat) (k14 : Option Nat → Int32 → Int32 → ag_H → Option ((Int32) × ag_H)) (x1 : Option Nat) (x2 : Int32) (x3 : Int32) (x4 : Option Nat) (h : ag_H) : Option ((Int32) × ag_H) := (ag_rc h (some (a)) 3).bind fun a4 => (fn_Jg_search N C a4 (x4) (Int32.ofInt 4) h).bind fun r4 => (ag_gi r4.2 (some (a)) 3 13).bind fun g6 => if (g6) = (0) then ((ag_gi r4.2 (some (a)) 3 11).bind fun g9 => if (g9) = (0) then (fn_Jg_lookAtPolicies_100 N C a k14 (x1) ((x2) + Int32.ofInt (1)) (x3) r4.2) else ((ag_gi r4.2 (x4) 7 0).bind fun g13 => if (g13) = (Int32.ofInt 4) then (fn_Jg_lookAtPolicies_96 N C a (x2) r4.2) else (fn_Jg_lookAtPolicies_96 N C a ((Int8.ofInt (-5)).toInt32) r4.2))) else (some (((Int8.ofInt (-3)).toInt32), r4.2))
def fn_Jg_lookAtPolicies_14 (N : Nat) (C : Nat × Nat) (a : Nat) : Nat → Option Nat → Int32 → Int32 → ag_H → Option ((Int32) × ag_H)
  | 0, _, _, _, _ => none
  | n + 1, x1, x2, x3, h => (ag_rc h (x1) 11).bind fun a3 => (fn_AL_size N C a3  h).bind fun r3 => if (r3.1) ≤ (x3) then (some (((Int8.ofInt (-6)).toInt32), r3.2)) else ((ag_rc r3.2 (x1) 11).bind fun a9 => (fn_AL_get N C a9 (x3) r3.2).bind fun r9 => if ag_ck r9.2 (r9.1) 7 = true then ((ag_gi r9.2 ((r9.1)) 7 0).bind fun g13 => if (g13) = (Int32.ofInt 4) then (fn_Jg_lookAtPolicies_57 N C a (fn_Jg_lookAtPolicies_14 N C a n) (x1) (x2) (x3) ((r9.1)) r9.2) else ((ag_gi r9.2 ((r9.1)) 7 0).bind fun g17 => if (g17) = (Int32.ofInt 5) then (fn_Jg_lookAtPolicies_57 N C a (fn_Jg_lookAtPolicies_14 N C a n) (x1) (x2) (x3) ((r9.1)) r9.2) else (fn_Jg_lookAtPolicies_100 N C a (fn_Jg_lookAtPolicies_14 N C a n) (x1) (x2) (x3) r9.2))) else none)
theorem fe_Jg_lookAtPolicies_14 (N : Nat) (C : Nat × Nat) (a : Nat) (n : Nat) (x1 : Option Nat) (x2 : Int32) (x3 : Int32) (h : ag_H) : fn_Jg_lookAtPolicies_14 N C a (n + 1) x1 x2 x3 h = ((ag_rc h (x1) 11).bind fun a3 => (fn_AL_size N C a3  h).bind fun r3 => if (r3.1) ≤ (x3) then (some (((Int8.ofInt (-6)).toInt32), r3.2)) else ((ag_rc r3.2 (x1) 11).bind fun a9 => (fn_AL_get N C a9 (x3) r3.2).bind fun r9 => if ag_ck r9.2 (r9.1) 7 = true then ((ag_gi r9.2 ((r9.1)) 7 0).bind fun g13 => if (g13) = (Int32.ofInt 4) then (fn_Jg_lookAtPolicies_57 N C a (fn_Jg_lookAtPolicies_14 N C a n) (x1) (x2) (x3) ((r9.1)) r9.2) else ((ag_gi r9.2 ((r9.1)) 7 0).bind fun g17 => if (g17) = (Int32.ofInt 5) then (fn_Jg_lookAtPolicies_57 N C a (fn_Jg_lookAtPolicies_14 N C a n) (x1) (x2) (x3) ((r9.1)) r9.2) else (fn_Jg_lookAtPolicies_100 N C a (fn_Jg_lookAtPolicies_14 N C a n) (x1) (x2) (x3) r9.2))) else none)) := rfl
def fn_Jg_lookAtPolicies_0 (N : Nat) (C : Nat × Nat) (a : Nat) (h : ag_H) : Option ((Int32) × ag_H) := (ag_gr h (some (a)) 3 2).bind fun g2 => (ag_ao h (g2)).bind fun p4 => if md_in (Int32.ofInt 4) p4.1 = true then ((ag_gr h (p4.2 (Int32.ofInt 4).toNatClampNeg) 5 0).bind fun g5 => fn_Jg_lookAtPolicies_14 N C a N ((g5)) (Int32.ofInt 0) (Int32.ofInt 0) h) else none
def fn_Jg_lookAtPolicies (N : Nat) (C : Nat × Nat) (a : Nat) (h : ag_H) : Option ((Int32) × ag_H) := fn_Jg_lookAtPolicies_0 N C a h
theorem w_Jg_lookAtPolicies_100 {l : Launch} {G : ag_G} {d N : Nat} {C : Nat × Nat} {a : Nat} (hC : ag_cN G = C.1 ∧ ag_cS G = C.2) (hH : 16 ≤ d) {k14 : Option Nat → Int32 → Int32 → ag_H → Option ((Int32) × ag_H)} (hk14 : ∀ (res : (Int32) × ag_H) (y1 : Option Nat) (y2 : Int32) (y3 : Int32) (hh : ag_H), k14 y1 y2 y3 hh = some res → ag_ev gc_P l G m_Jg_lookAtPolicies (d + 1) (ag_ret gc_P G (fun v h' => v = some (.int res.1) ∧ h' = res.2)) 14 [(0, .ref a), (1, ag_rf (y1)), (2, .int (y2)), (3, .int (y3))] [] hh) {x1 : Option Nat} {x2 : Int32} {x3 : Int32} {h : ag_H} {res : (Int32) × ag_H} (hyp : fn_Jg_lookAtPolicies_100 N C a k14 x1 x2 x3 h = some res) : ag_ev gc_P l G m_Jg_lookAtPolicies (d + 1) (ag_ret gc_P G (fun v h' => v = some (.int res.1) ∧ h' = res.2)) 100 [(0, .ref a), (1, ag_rf (x1)), (2, .int (x2)), (3, .int (x3))] [] h := by
  unfold fn_Jg_lookAtPolicies_100 at hyp
  have hc : ag_C1 [(0, .ref a), (1, ag_rf (x1)), (2, .int (x2)), (3, .int (x3))] := (ag_c1 rfl (ag_c1 (ag_cat_rf _) (ag_c1 rfl (ag_c1 rfl ag_c0))))
  refine gc_iinc d_Jg_lookAtPolicies_100 rfl (by decide) hc ?_
  replace hc := ag_cs (i := 3) (v := .int ((x3) + Int32.ofInt (1))) hc rfl
  refine ag_goto d_Jg_lookAtPolicies_103 rfl ?_
  exact ag_dr (ag_d1 rfl (ag_d1 rfl (ag_d1 rfl (ag_d1 rfl ag_d0)))) (hk14 _ _ _ _ _ hyp)
theorem w_Jg_lookAtPolicies_96 {l : Launch} {G : ag_G} {d N : Nat} {C : Nat × Nat} {a : Nat} (hC : ag_cN G = C.1 ∧ ag_cS G = C.2) (hH : 16 ≤ d) {s0 : Int32} {h : ag_H} {res : (Int32) × ag_H} (hyp : fn_Jg_lookAtPolicies_96 N C a s0 h = some res) : ag_ev gc_P l G m_Jg_lookAtPolicies (d + 1) (ag_ret gc_P G (fun v h' => v = some (.int res.1) ∧ h' = res.2)) 96 [(0, .ref a)] [.int (s0)] h := by
  unfold fn_Jg_lookAtPolicies_96 at hyp
  have hc : ag_C1 [(0, .ref a)] := (ag_c1 rfl ag_c0)
  cases hyp
  exact ag_iret d_Jg_lookAtPolicies_96 rfl rfl ⟨rfl, rfl⟩
theorem w_Jg_lookAtPolicies_57 {l : Launch} {G : ag_G} {d N : Nat} {C : Nat × Nat} {a : Nat} (hC : ag_cN G = C.1 ∧ ag_cS G = C.2) (hH : 16 ≤ d) {k14 : Option Nat → Int32 → Int32 → ag_H → Option ((Int32) × ag_H)} (hk14 : ∀ (res : (Int32) × ag_H) (y1 : Option Nat) (y2 : Int32) (y3 : Int32) (hh : ag_H), k14 y1 y2 y3 hh = some res → ag_ev gc_P l G m_Jg_lookAtPolicies (d + 1) (ag_ret gc_P G (fun v h' => v = some (.int res.1) ∧ h' = res.2)) 14 [(0, .ref a), (1, ag_rf (y1)), (2, .int (y2)), (3, .int (y3))] [] hh) {x1 : Option Nat} {x2 : Int32} {x3 : Int32} {x4 : Option Nat} {h : ag_H} {res : (Int32) × ag_H} (hyp : fn_Jg_lookAtPolicies_57 N C a k14 x1 x2 x3 x4 h = some res) : ag_ev gc_P l G m_Jg_lookAtPolicies (d + 1) (ag_ret gc_P G (fun v h' => v = some (.int res.1) ∧ h' = res.2)) 57 [(0, .ref a), (1, ag_rf (x1)), (2, .int (x2)), (3, .int (x3)), (4, ag_rf (x4))] [] h := by
  unfold fn_Jg_lookAtPolicies_57 at hyp
  have hc : ag_C1 [(0, .ref a), (1, ag_rf (x1)), (2, .int (x2)), (3, .int (x3)), (4, ag_rf (x4))] := (ag_c1 rfl (ag_c1 (ag_cat_rf _) (ag_c1 rfl (ag_c1 rfl (ag_c1 (ag_cat_rf _) ag_c0)))))
  refine gc_aload_n (r := (some (a))) d_Jg_lookAtPolicies_57 rfl ?_
  refine gc_aload (r := (x4)) d_Jg_lookAtPolicies_58 rfl ?_
  refine ag_iconst d_Jg_lookAtPolicies_60 ?_
  obtain ⟨a4, ea4, hyp⟩ := md_bd hyp
  obtain ⟨r4, er4, hyp⟩ := md_bd hyp
  refine gc_callv (r := (some (a))) (as := [ag_rf (x4), .int (Int32.ofInt 4)]) d_Jg_lookAtPolicies_61 ml_Jg_113 gw_862 rfl sl_Jg_search ea4 (Nat.le_of_ble_eq_true rfl) (w_Jg_search hC (d := d) (by omega) er4) (fun v4 h4 q4 => ?_)
  obtain ⟨rfl, rfl⟩ := q4
  refine gc_aload_n (r := (some (a))) d_Jg_lookAtPolicies_64 rfl ?_
  obtain ⟨g6, eg6, hyp⟩ := md_bd hyp
  refine gc_geti (r := (some (a))) d_Jg_lookAtPolicies_65 fr_Jg_117 eg6 ?_
  refine ag_if_eq d_Jg_lookAtPolicies_68 rfl (fun q => ?_) (fun q => ?_)
  · replace hyp := md_ifp q hyp
    refine gc_aload_n (r := (some (a))) d_Jg_lookAtPolicies_74 rfl ?_
    obtain ⟨g9, eg9, hyp⟩ := md_bd hyp
    refine gc_geti (r := (some (a))) d_Jg_lookAtPolicies_75 fr_Jg_120 eg9 ?_
    refine ag_if_eq d_Jg_lookAtPolicies_78 rfl (fun q => ?_) (fun q => ?_)
    · replace hyp := md_ifp q hyp
      refine gc_iinc d_Jg_lookAtPolicies_97 rfl (by decide) hc ?_
      replace hc := ag_cs (i := 2) (v := .int ((x2) + Int32.ofInt (1))) hc rfl
      exact ag_dr (ag_d1 rfl (ag_d1 rfl (ag_d1 rfl (ag_d1 rfl ag_d0)))) (w_Jg_lookAtPolicies_100 hC hH hk14 hyp)
    · replace hyp := md_ifn q hyp
      refine gc_aload (r := (x4)) d_Jg_lookAtPolicies_81 rfl ?_
      obtain ⟨g13, eg13, hyp⟩ := md_bd hyp
      refine gc_geti (r := (x4)) d_Jg_lookAtPolicies_83 fr_Jg_94 eg13 ?_
      refine ag_iconst d_Jg_lookAtPolicies_86 ?_
      refine ag_icmp_ne d_Jg_lookAtPolicies_87 rfl (fun q => ?_) (fun q => ?_)
      · replace hyp := md_ifn q hyp
        refine ag_bipush d_Jg_lookAtPolicies_94 ?_
        exact ag_dr (ag_d1 rfl ag_d0) (w_Jg_lookAtPolicies_96 hC hH hyp)
      · replace hyp := md_ifp q hyp
        refine ag_iload_n d_Jg_lookAtPolicies_90 rfl ?_
        refine ag_goto d_Jg_lookAtPolicies_91 rfl ?_
        exact ag_dr (ag_d1 rfl ag_d0) (w_Jg_lookAtPolicies_96 hC hH hyp)
  · replace hyp := md_ifn q hyp
    refine ag_bipush d_Jg_lookAtPolicies_71 ?_
    cases hyp
    exact ag_iret d_Jg_lookAtPolicies_73 rfl rfl ⟨rfl, rfl⟩
theorem w_Jg_lookAtPolicies_14 {l : Launch} {G : ag_G} {d N : Nat} {C : Nat × Nat} {a : Nat} (hC : ag_cN G = C.1 ∧ ag_cS G = C.2) (hH : 16 ≤ d) : ∀ (n : Nat) (res : (Int32) × ag_H) (x1 : Option Nat) (x2 : Int32) (x3 : Int32) (h : ag_H) , fn_Jg_lookAtPolicies_14 N C a n x1 x2 x3 h = some res → ag_ev gc_P l G m_Jg_lookAtPolicies (d + 1) (ag_ret gc_P G (fun v h' => v = some (.int res.1) ∧ h' = res.2)) 14 [(0, .ref a), (1, ag_rf (x1)), (2, .int (x2)), (3, .int (x3))] [] h := by
  intro n
  induction n with
  | zero =>
    intro res x1 x2 x3 h hyp
    cases hyp
  | succ n ih =>
    intro res x1 x2 x3 h hyp
    rw [fe_Jg_lookAtPolicies_14] at hyp
    have hc : ag_C1 [(0, .ref a), (1, ag_rf (x1)), (2, .int (x2)), (3, .int (x3))] := (ag_c1 rfl (ag_c1 (ag_cat_rf _) (ag_c1 rfl (ag_c1 rfl ag_c0))))
    refine ag_iload_n d_Jg_lookAtPolicies_14 rfl ?_
    refine gc_aload_n (r := (x1)) d_Jg_lookAtPolicies_15 rfl ?_
    obtain ⟨a3, ea3, hyp⟩ := md_bd hyp
    obtain ⟨r3, er3, hyp⟩ := md_bd hyp
    refine gc_callf (r := (x1)) (as := []) d_Jg_lookAtPolicies_16 il_Jg_84 ea3 (Nat.le_of_ble_eq_true rfl) (w_AL_size hC (d := d) (by omega) er3) (fun v3 h3 q3 => ?_)
    obtain ⟨rfl, rfl⟩ := q3
    refine ag_icmp_ge d_Jg_lookAtPolicies_21 rfl (fun q => ?_) (fun q => ?_)
    · replace hyp := md_ifp q hyp
      refine ag_bipush d_Jg_lookAtPolicies_106 ?_
      cases hyp
      exact ag_iret d_Jg_lookAtPolicies_108 rfl rfl ⟨rfl, rfl⟩
    · replace hyp := md_ifn q hyp
      refine gc_aload_n (r := (x1)) d_Jg_lookAtPolicies_24 rfl ?_
      refine ag_iload_n d_Jg_lookAtPolicies_25 rfl ?_
      obtain ⟨a9, ea9, hyp⟩ := md_bd hyp
      obtain ⟨r9, er9, hyp⟩ := md_bd hyp
      refine gc_callf (r := (x1)) (as := [.int (x3)]) d_Jg_lookAtPolicies_26 il_Jg_88 ea9 (Nat.le_of_ble_eq_true rfl) (w_AL_get hC (d := d) (by omega) er9) (fun v9 h9 q9 => ?_)
      obtain ⟨rfl, rfl⟩ := q9
      obtain ⟨q10, hyp⟩ := md_ifs hyp
      refine gc_cast (r := (r9.1)) d_Jg_lookAtPolicies_31 gw_851 rfl q10 ?_
      refine gc_astore0 (r := (r9.1)) d_Jg_lookAtPolicies_34 (by decide) hc ?_
      replace hc := ag_cs (i := 4) (v := ag_rf (r9.1)) hc (ag_cat_rf _)
      refine gc_aload (r := ((r9.1))) d_Jg_lookAtPolicies_36 rfl ?_
      obtain ⟨g13, eg13, hyp⟩ := md_bd hyp
      refine gc_geti (r := ((r9.1))) d_Jg_lookAtPolicies_38 fr_Jg_94 eg13 ?_
      refine ag_iconst d_Jg_lookAtPolicies_41 ?_
      refine ag_icmp_eq d_Jg_lookAtPolicies_42 rfl (fun q => ?_) (fun q => ?_)
      · replace hyp := md_ifp q hyp
        exact ag_dr (ag_d1 rfl (ag_d1 rfl (ag_d1 rfl (ag_d1 rfl (ag_d1 rfl ag_d0))))) (w_Jg_lookAtPolicies_57 hC hH ih hyp)
      · replace hyp := md_ifn q hyp
        refine gc_aload (r := ((r9.1))) d_Jg_lookAtPolicies_45 rfl ?_
        obtain ⟨g17, eg17, hyp⟩ := md_bd hyp
        refine gc_geti (r := ((r9.1))) d_Jg_lookAtPolicies_47 fr_Jg_94 eg17 ?_
        refine ag_iconst d_Jg_lookAtPolicies_50 ?_
        refine ag_icmp_eq d_Jg_lookAtPolicies_51 rfl (fun q => ?_) (fun q => ?_)
        · replace hyp := md_ifp q hyp
          exact ag_dr (ag_d1 rfl (ag_d1 rfl (ag_d1 rfl (ag_d1 rfl (ag_d1 rfl ag_d0))))) (w_Jg_lookAtPolicies_57 hC hH ih hyp)
        · replace hyp := md_ifn q hyp
          refine ag_goto d_Jg_lookAtPolicies_54 rfl ?_
          exact ag_dr (ag_d1 rfl (ag_d1 rfl (ag_d1 rfl (ag_d1 rfl ag_d0)))) (w_Jg_lookAtPolicies_100 hC hH ih hyp)
theorem w_Jg_lookAtPolicies_0 {l : Launch} {G : ag_G} {d N : Nat} {C : Nat × Nat} {a : Nat} (hC : ag_cN G = C.1 ∧ ag_cS G = C.2) (hH : 16 ≤ d) {h : ag_H} {res : (Int32) × ag_H} (hyp : fn_Jg_lookAtPolicies_0 N C a h = some res) : ag_ev gc_P l G m_Jg_lookAtPolicies (d + 1) (ag_ret gc_P G (fun v h' => v = some (.int res.1) ∧ h' = res.2)) 0 [(0, .ref a)] [] h := by
  unfold fn_Jg_lookAtPolicies_0 at hyp
  have hc : ag_C1 [(0, .ref a)] := (ag_c1 rfl ag_c0)
  refine gc_aload_n (r := (some (a))) d_Jg_lookAtPolicies_0 rfl ?_
  obtain ⟨g2, eg2, hyp⟩ := md_bd hyp
  refine gc_getr (r := (some (a))) d_Jg_lookAtPolicies_1 fr_Jg_25 eg2 ?_
  refine ag_iconst d_Jg_lookAtPolicies_4 ?_
  obtain ⟨p4, ep4, hyp⟩ := md_bd hyp
  obtain ⟨q4, hyp⟩ := md_ifs hyp
  refine gc_ald (r := (g2)) d_Jg_lookAtPolicies_5 ep4 q4 ?_
  obtain ⟨g5, eg5, hyp⟩ := md_bd hyp
  refine gc_getr (r := (p4.2 (Int32.ofInt 4).toNatClampNeg)) d_Jg_lookAtPolicies_6 fr_Jg_80 eg5 ?_
  refine gc_astore0_n (r := (g5)) d_Jg_lookAtPolicies_9 (by decide) hc ?_
  replace hc := ag_cs (i := 1) (v := ag_rf (g5)) hc (ag_cat_rf _)
  refine ag_iconst d_Jg_lookAtPolicies_10 ?_
  refine gc_istore_n d_Jg_lookAtPolicies_11 (by decide) hc ?_
  replace hc := ag_cs (i := 2) (v := .int (Int32.ofInt 0)) hc rfl
  refine ag_iconst d_Jg_lookAtPolicies_12 ?_
  refine gc_istore_n d_Jg_lookAtPolicies_13 (by decide) hc ?_
  replace hc := ag_cs (i := 3) (v := .int (Int32.ofInt 0)) hc rfl
  exact ag_dr (ag_d1 rfl (ag_d1 rfl (ag_d1 rfl (ag_d1 rfl ag_d0)))) (w_Jg_lookAtPolicies_14 hC hH N _ _ _ _ _ hyp)
theorem w_Jg_lookAtPolicies {l : Launch} {G : ag_G} {d N : Nat} {C : Nat × Nat} (hC : ag_cN G = C.1 ∧ ag_cS G = C.2) (hH : 16 + 1 ≤ d) {a : Nat} {h : ag_H} {res : (Int32) × ag_H} (hyp : fn_Jg_lookAtPolicies N C a h = some res) : ag_Met gc_P l G m_Jg_lookAtPolicies d [.ref a] h (fun v h' => v = some (.int res.1) ∧ h' = res.2) := by
  obtain ⟨d, rfl, hG⟩ := md_dd hH
  exact ag_met (by decide) rfl (Nat.le_of_ble_eq_true rfl) (ag_dr (ag_d1 rfl ag_d0) (w_Jg_lookAtPolicies_0 hC hG hyp))
def fn_Jg_verdict_27 (N : Nat) (C : Nat × Nat) (a : Nat) (h : ag_H) : Option ((Int32) × ag_H) := some (((Int8.ofInt (-3)).toInt32), h)
def fn_Jg_verdict_43 (N : Nat) (C : Nat × Nat) (a : Nat) (s0 : Int32) (h : ag_H) : Option ((Int32) × ag_H) := some ((s0), h)
def fn_Jg_verdict_0 (N : Nat) (C : Nat × Nat) (a : Nat) (h : ag_H) : Option ((Int32) × ag_H) := (ag_gi h (some (a)) 3 9).bind fun g2 => (ag_rc h (some (a)) 3).bind fun a6 => (fn_Jg_lookAtChecks N C a6  h).bind fun r6 => (ag_rc r6.2 (some (a)) 3).bind fun a10 => (fn_Jg_lookAtPolicies N C a10  r6.2).bind fun r10 => if ((g2) ||| (r6.1)) = (0) then (if (r10.1) = ((Int8.ofInt (-3)).toInt32) then (fn_Jg_verdict_27 N C a  r10.2) else ((ag_gi r10.2 (some (a)) 3 5).bind fun g18 => if (g18) = (0) then (fn_Jg_verdict_43 N C a (r10.1) r10.2) else (fn_Jg_verdict_43 N C a ((Int8.ofInt (-4)).toInt32) r10.2))) else (fn_Jg_verdict_27 N C a  r10.2)
def fn_Jg_verdict (N : Nat) (C : Nat × Nat) (a : Nat) (h : ag_H) : Option ((Int32) × ag_H) := fn_Jg_verdict_0 N C a h
theorem w_Jg_verdict_27 {l : Launch} {G : ag_G} {d N : Nat} {C : Nat × Nat} {a : Nat} (hC : ag_cN G = C.1 ∧ ag_cS G = C.2) (hH : 17 ≤ d) {h : ag_H} {res : (Int32) × ag_H} (hyp : fn_Jg_verdict_27 N C a h = some res) : ag_ev gc_P l G m_Jg_verdict (d + 1) (ag_ret gc_P G (fun v h' => v = some (.int res.1) ∧ h' = res.2)) 27 [(0, .ref a)] [] h := by
  unfold fn_Jg_verdict_27 at hyp
  have hc : ag_C1 [(0, .ref a)] := (ag_c1 rfl ag_c0)
  refine ag_bipush d_Jg_verdict_27 ?_
  cases hyp
  exact ag_iret d_Jg_verdict_29 rfl rfl ⟨rfl, rfl⟩
theorem w_Jg_verdict_43 {l : Launch} {G : ag_G} {d N : Nat} {C : Nat × Nat} {a : Nat} (hC : ag_cN G = C.1 ∧ ag_cS G = C.2) (hH : 17 ≤ d) {s0 : Int32} {h : ag_H} {res : (Int32) × ag_H} (hyp : fn_Jg_verdict_43 N C a s0 h = some res) : ag_ev gc_P l G m_Jg_verdict (d + 1) (ag_ret gc_P G (fun v h' => v = some (.int res.1) ∧ h' = res.2)) 43 [(0, .ref a)] [.int (s0)] h := by
  unfold fn_Jg_verdict_43 at hyp
  have hc : ag_C1 [(0, .ref a)] := (ag_c1 rfl ag_c0)
  cases hyp
  exact ag_iret d_Jg_verdict_43 rfl rfl ⟨rfl, rfl⟩
theorem w_Jg_verdict_0 {l : Launch} {G : ag_G} {d N : Nat} {C : Nat × Nat} {a : Nat} (hC : ag_cN G = C.1 ∧ ag_cS G = C.2) (hH : 17 ≤ d) {h : ag_H} {res : (Int32) × ag_H} (hyp : fn_Jg_verdict_0 N C a h = some res) : ag_ev gc_P l G m_Jg_verdict (d + 1) (ag_ret gc_P G (fun v h' => v = some (.int res.1) ∧ h' = res.2)) 0 [(0, .ref a)] [] h := by
  unfold fn_Jg_verdict_0 at hyp
  have hc : ag_C1 [(0, .ref a)] := (ag_c1 rfl ag_c0)
  refine gc_aload_n (r := (some (a))) d_Jg_verdict_0 rfl ?_
  obtain ⟨g2, eg2, hyp⟩ := md_bd hyp
  refine gc_geti (r := (some (a))) d_Jg_verdict_1 fr_Jg_69 eg2 ?_
  refine gc_istore_n d_Jg_verdict_4 (by decide) hc ?_
  replace hc := ag_cs (i := 1) (v := .int (g2)) hc rfl
  refine ag_iload_n d_Jg_verdict_5 rfl ?_
  refine gc_aload_n (r := (some (a))) d_Jg_verdict_6 rfl ?_
  obtain ⟨a6, ea6, hyp⟩ := md_bd hyp
  obtain ⟨r6, er6, hyp⟩ := md_bd hyp
  refine gc_callv (r := (some (a))) (as := []) d_Jg_verdict_7 ml_Jg_72 gw_907 rfl sl_Jg_lookAtChecks ea6 (Nat.le_of_ble_eq_true rfl) (w_Jg_lookAtChecks hC (d := d) (by omega) er6) (fun v6 h6 q6 => ?_)
  obtain ⟨rfl, rfl⟩ := q6
  refine ag_ior d_Jg_verdict_10 ?_
  refine gc_istore_n d_Jg_verdict_11 (by decide) hc ?_
  replace hc := ag_cs (i := 1) (v := .int ((g2) ||| (r6.1))) hc rfl
  refine gc_aload_n (r := (some (a))) d_Jg_verdict_12 rfl ?_
  obtain ⟨a10, ea10, hyp⟩ := md_bd hyp
  obtain ⟨r10, er10, hyp⟩ := md_bd hyp
  refine gc_callv (r := (some (a))) (as := []) d_Jg_verdict_13 ml_Jg_76 gw_911 rfl sl_Jg_lookAtPolicies ea10 (Nat.le_of_ble_eq_true rfl) (w_Jg_lookAtPolicies hC (d := d) (by omega) er10) (fun v10 h10 q10 => ?_)
  obtain ⟨rfl, rfl⟩ := q10
  refine gc_istore_n d_Jg_verdict_16 (by decide) hc ?_
  replace hc := ag_cs (i := 2) (v := .int (r10.1)) hc rfl
  refine ag_iload_n d_Jg_verdict_17 rfl ?_
  refine ag_if_ne d_Jg_verdict_18 rfl (fun q => ?_) (fun q => ?_)
  · replace hyp := md_ifn q hyp
    exact ag_dr (ag_d1 rfl ag_d0) (w_Jg_verdict_27 hC hH hyp)
  · replace hyp := md_ifp q hyp
    refine ag_iload_n d_Jg_verdict_21 rfl ?_
    refine ag_bipush d_Jg_verdict_22 ?_
    refine ag_icmp_ne d_Jg_verdict_24 rfl (fun q => ?_) (fun q => ?_)
    · replace hyp := md_ifn q hyp
      refine gc_aload_n (r := (some (a))) d_Jg_verdict_30 rfl ?_
      obtain ⟨g18, eg18, hyp⟩ := md_bd hyp
      refine gc_geti (r := (some (a))) d_Jg_verdict_31 fr_Jg_44 eg18 ?_
      refine ag_if_eq d_Jg_verdict_34 rfl (fun q => ?_) (fun q => ?_)
      · replace hyp := md_ifp q hyp
        refine ag_iload_n d_Jg_verdict_42 rfl ?_
        exact ag_dr (ag_d1 rfl ag_d0) (w_Jg_verdict_43 hC hH hyp)
      · replace hyp := md_ifn q hyp
        refine ag_bipush d_Jg_verdict_37 ?_
        refine ag_goto d_Jg_verdict_39 rfl ?_
        exact ag_dr (ag_d1 rfl ag_d0) (w_Jg_verdict_43 hC hH hyp)
    · replace hyp := md_ifp q hyp
      exact ag_dr (ag_d1 rfl ag_d0) (w_Jg_verdict_27 hC hH hyp)
theorem w_Jg_verdict {l : Launch} {G : ag_G} {d N : Nat} {C : Nat × Nat} (hC : ag_cN G = C.1 ∧ ag_cS G = C.2) (hH : 17 + 1 ≤ d) {a : Nat} {h : ag_H} {res : (Int32) × ag_H} (hyp : fn_Jg_verdict N C a h = some res) : ag_Met gc_P l G m_Jg_verdict d [.ref a] h (fun v h' => v = some (.int res.1) ∧ h' = res.2) := by
  obtain ⟨d, rfl, hG⟩ := md_dd hH
  exact ag_met (by decide) rfl (Nat.le_of_ble_eq_true rfl) (ag_dr (ag_d1 rfl ag_d0) (w_Jg_verdict_0 hC hG hyp))
