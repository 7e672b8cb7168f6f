/-! GC_layOut, Fa_offer, Jg_layFacts, Jg_valueOf, Jg_compare, Jg_calculate, Jg_work, Jg_finish, Jg_fitTerm -/
def fn_GC_layOut_92 (N : Nat) (C : Nat × Nat) (a : Nat) (k2 : Option Nat → Int32 → ag_H → Option ((Int32) × ag_H)) (x1 : Option Nat) (x2 : Int32) (s0 : Option Nat) (s1 : Int32) (s2 : Option Nat) (h : ag_H) : Option ((Int32) × ag_H) := (ag_as h (s0) (s1) (s2)).bind fun h1 => k2 (x1) ((x2) + Int32.ofInt (1)) h1
def fn_GC_layOut_85 (N : Nat) (C : Nat × Nat) (a : Nat) (k2 : Option Nat → Int32 → ag_H → Option ((Int32) × ag_H)) (x1 : Option Nat) (x2 : Int32) (s0 : Option Nat) (s1 : Int32) (h : ag_H) : Option ((Int32) × ag_H) := (ag_gr h (some (a)) 0 2).bind fun g2 => (ag_gr h (g2) 3 1).bind fun g3 => fn_GC_layOut_92 N C a k2 (x1) (x2) (s0) (s1) (g3) h
def fn_GC_layOut_40 (N : Nat) (C : Nat × Nat) (a : Nat) (k2 : Option Nat → Int32 → ag_H → Option ((Int32) × ag_H)) (x1 : Option Nat) (x2 : Int32) (s0 : Int32) (h : ag_H) : Option ((Int32) × ag_H) := (ag_gr h (some (a)) 0 2).bind fun g3 => (ag_gr h (g3) 3 2).bind fun g4 => if (s0) < (Int32.ofInt 1) then (fn_GC_layOut_85 N C a k2 (x1) (x2) (g4) (x2) h) else ((ag_gr h (some (a)) 0 4).bind fun g11 => (ag_rc h (g11) 11).bind fun a12 => (fn_AL_size N C a12  h).bind fun r12 => if (r12.1) < (s0) then (fn_GC_layOut_85 N C a k2 (x1) (x2) (g4) (x2) r12.2) else ((ag_gr r12.2 (some (a)) 0 4).bind fun g15 => (ag_rc r12.2 (g15) 11).bind fun a19 => (fn_AL_get N C a19 ((s0) - (Int32.ofInt 1)) r12.2).bind fun r19 => if ag_ck r19.2 (r19.1) 5 = true then (fn_GC_layOut_92 N C a k2 (x1) (x2) (g4) (x2) (r19.1) r19.2) else none))
def fn_GC_layOut_2 (N : Nat) (C : Nat × Nat) (a : Nat) : Nat → Option Nat → Int32 → ag_H → Option ((Int32) × ag_H)
  | 0, _, _, _ => none
  | n + 1, x1, x2, h => if (Int32.ofInt 4) ≤ (x2) then ((ag_gr h (some (a)) 0 2).bind fun g5 => (ag_gr h (g5) 3 2).bind fun g6 => (ag_gr h (some (a)) 0 3).bind fun g9 => (ag_as h (g6) (Int32.ofInt 4) (g9)).bind fun h10 => some (0, h10)) else ((ag_gr h (x1) 8 0).bind fun g14 => (ag_rc h (g14) 11).bind fun a15 => (fn_AL_size N C a15  h).bind fun r15 => if (r15.1) ≤ (x2) then (fn_GC_layOut_40 N C a (fn_GC_layOut_2 N C a n) (x1) (x2) (Int32.ofInt 0) r15.2) else ((ag_gr r15.2 (x1) 8 0).bind fun g19 => (ag_rc r15.2 (g19) 11).bind fun a21 => (fn_AL_get N C a21 (x2) r15.2).bind fun r21 => if ag_ck r21.2 (r21.1) 9 = true then ((ag_gi r21.2 (r21.1) 9 0).bind fun g23 => fn_GC_layOut_40 N C a (fn_GC_layOut_2 N C a n) (x1) (x2) (g23) r21.2) else none))
theorem fe_GC_layOut_2 (N : Nat) (C : Nat × Nat) (a : Nat) (n : Nat) (x1 : Option Nat) (x2 : Int32) (h : ag_H) : fn_GC_layOut_2 N C a (n + 1) x1 x2 h = (if (Int32.ofInt 4) ≤ (x2) then ((ag_gr h (some (a)) 0 2).bind fun g5 => (ag_gr h (g5) 3 2).bind fun g6 => (ag_gr h (some (a)) 0 3).bind fun g9 => (ag_as h (g6) (Int32.ofInt 4) (g9)).bind fun h10 => some (0, h10)) else ((ag_gr h (x1) 8 0).bind fun g14 => (ag_rc h (g14) 11).bind fun a15 => (fn_AL_size N C a15  h).bind fun r15 => if (r15.1) ≤ (x2) then (fn_GC_layOut_40 N C a (fn_GC_layOut_2 N C a n) (x1) (x2) (Int32.ofInt 0) r15.2) else ((ag_gr r15.2 (x1) 8 0).bind fun g19 => (ag_rc r15.2 (g19) 11).bind fun a21 => (fn_AL_get N C a21 (x2) r15.2).bind fun r21 => if ag_ck r21.2 (r21.1) 9 = true then ((ag_gi r21.2 (r21.1) 9 0).bind fun g23 => fn_GC_layOut_40 N C a (fn_GC_layOut_2 N C a n) (x1) (x2) (g23) r21.2) else none))) := rfl
def fn_GC_layOut_0 (N : Nat) (C : Nat × Nat) (a : Nat) (x1 : Option Nat) (h : ag_H) : Option ((Int32) × ag_H) := fn_GC_layOut_2 N C a N (x1) (Int32.ofInt 0) h
def fn_GC_layOut (N : Nat) (C : Nat × Nat) (a : Nat) (p1 : Option Nat) (h : ag_H) : Option ((Int32) × ag_H) := fn_GC_layOut_0 N C a p1 h
theorem w_GC_layOut_92 {l : Launch} {G : ag_G} {d N : Nat} {C : Nat × Nat} {a : Nat} (hC : ag_cN G = C.1 ∧ ag_cS G = C.2) (hH : 2 ≤ d) {k2 : Option Nat → Int32 → ag_H → Option ((Int32) × ag_H)} (hk2 : ∀ (res : (Int32) × ag_H) (y1 : Option Nat) (y2 : Int32) (hh : ag_H), k2 y1 y2 hh = some res → ag_ev gc_P l G m_GC_layOut (d + 1) (ag_ret gc_P G (fun v h' => v = none ∧ h' = res.2)) 2 [(0, .ref a), (1, ag_rf (y1)), (2, .int (y2))] [] hh) {x1 : Option Nat} {x2 : Int32} {s0 : Option Nat} {s1 : Int32} {s2 : Option Nat} {h : ag_H} {res : (Int32) × ag_H} (hyp : fn_GC_layOut_92 N C a k2 x1 x2 s0 s1 s2 h = some res) : ag_ev gc_P l G m_GC_layOut (d + 1) (ag_ret gc_P G (fun v h' => v = none ∧ h' = res.2)) 92 [(0, .ref a), (1, ag_rf (x1)), (2, .int (x2))] [ag_rf (s2), .int (s1), ag_rf (s0)] h := by
  unfold fn_GC_layOut_92 at hyp
  have hc : ag_C1 [(0, .ref a), (1, ag_rf (x1)), (2, .int (x2))] := (ag_c1 rfl (ag_c1 (ag_cat_rf _) (ag_c1 rfl ag_c0)))
  obtain ⟨h1, eh1, hyp⟩ := md_bd hyp
  refine gc_ast (r := (s0)) (w := (s2)) d_GC_layOut_92 eh1 ?_
  refine gc_iinc d_GC_layOut_93 rfl (by decide) hc ?_
  replace hc := ag_cs (i := 2) (v := .int ((x2) + Int32.ofInt (1))) hc rfl
  refine ag_goto d_GC_layOut_96 rfl ?_
  exact ag_dr (ag_d1 rfl (ag_d1 rfl (ag_d1 rfl ag_d0))) (hk2 _ _ _ _ hyp)
theorem w_GC_layOut_85 {l : Launch} {G : ag_G} {d N : Nat} {C : Nat × Nat} {a : Nat} (hC : ag_cN G = C.1 ∧ ag_cS G = C.2) (hH : 2 ≤ d) {k2 : Option Nat → Int32 → ag_H → Option ((Int32) × ag_H)} (hk2 : ∀ (res : (Int32) × ag_H) (y1 : Option Nat) (y2 : Int32) (hh : ag_H), k2 y1 y2 hh = some res → ag_ev gc_P l G m_GC_layOut (d + 1) (ag_ret gc_P G (fun v h' => v = none ∧ h' = res.2)) 2 [(0, .ref a), (1, ag_rf (y1)), (2, .int (y2))] [] hh) {x1 : Option Nat} {x2 : Int32} {s0 : Option Nat} {s1 : Int32} {h : ag_H} {res : (Int32) × ag_H} (hyp : fn_GC_layOut_85 N C a k2 x1 x2 s0 s1 h = some res) : ag_ev gc_P l G m_GC_layOut (d + 1) (ag_ret gc_P G (fun v h' => v = none ∧ h' = res.2)) 85 [(0, .ref a), (1, ag_rf (x1)), (2, .int (x2))] [.int (s1), ag_rf (s0)] h := by
  unfold fn_GC_layOut_85 at hyp
  have hc : ag_C1 [(0, .ref a), (1, ag_rf (x1)), (2, .int (x2))] := (ag_c1 rfl (ag_c1 (ag_cat_rf _) (ag_c1 rfl ag_c0)))
  refine gc_aload_n (r := (some (a))) d_GC_layOut_85 rfl ?_
  obtain ⟨g2, eg2, hyp⟩ := md_bd hyp
  refine gc_getr (r := (some (a))) d_GC_layOut_86 fr_GC_26 eg2 ?_
  obtain ⟨g3, eg3, hyp⟩ := md_bd hyp
  refine gc_getr (r := (g2)) d_GC_layOut_89 fr_GC_235 eg3 ?_
  exact ag_dr (ag_d1 rfl (ag_d1 rfl (ag_d1 rfl ag_d0))) (w_GC_layOut_92 hC hH hk2 hyp)
theorem w_GC_layOut_40 {l : Launch} {G : ag_G} {d N : Nat} {C : Nat × Nat} {a : Nat} (hC : ag_cN G = C.1 ∧ ag_cS G = C.2) (hH : 2 ≤ d) {k2 : Option Nat → Int32 → ag_H → Option ((Int32) × ag_H)} (hk2 : ∀ (res : (Int32) × ag_H) (y1 : Option Nat) (y2 : Int32) (hh : ag_H), k2 y1 y2 hh = some res → ag_ev gc_P l G m_GC_layOut (d + 1) (ag_ret gc_P G (fun v h' => v = none ∧ h' = res.2)) 2 [(0, .ref a), (1, ag_rf (y1)), (2, .int (y2))] [] hh) {x1 : Option Nat} {x2 : Int32} {s0 : Int32} {h : ag_H} {res : (Int32) × ag_H} (hyp : fn_GC_layOut_40 N C a k2 x1 x2 s0 h = some res) : ag_ev gc_P l G m_GC_layOut (d + 1) (ag_ret gc_P G (fun v h' => v = none ∧ h' = res.2)) 40 [(0, .ref a), (1, ag_rf (x1)), (2, .int (x2))] [.int (s0)] h := by
  unfold fn_GC_layOut_40 at hyp
  have hc : ag_C1 [(0, .ref a), (1, ag_rf (x1)), (2, .int (x2))] := (ag_c1 rfl (ag_c1 (ag_cat_rf _) (ag_c1 rfl ag_c0)))
  refine gc_istore_n d_GC_layOut_40 (by decide) hc ?_
  replace hc := ag_cs (i := 3) (v := .int (s0)) hc rfl
  refine gc_aload_n (r := (some (a))) d_GC_layOut_41 rfl ?_
  obtain ⟨g3, eg3, hyp⟩ := md_bd hyp
  refine gc_getr (r := (some (a))) d_GC_layOut_42 fr_GC_26 eg3 ?_
  obtain ⟨g4, eg4, hyp⟩ := md_bd hyp
  refine gc_getr (r := (g3)) d_GC_layOut_45 fr_GC_231 eg4 ?_
  refine ag_iload_n d_GC_layOut_48 rfl ?_
  refine ag_iload_n d_GC_layOut_49 rfl ?_
  refine ag_iconst d_GC_layOut_50 ?_
  refine ag_icmp_lt d_GC_layOut_51 rfl (fun q => ?_) (fun q => ?_)
  · replace hyp := md_ifp q hyp
    exact ag_dr (ag_d1 rfl (ag_d1 rfl (ag_d1 rfl ag_d0))) (w_GC_layOut_85 hC hH hk2 hyp)
  · replace hyp := md_ifn q hyp
    refine ag_iload_n d_GC_layOut_54 rfl ?_
    refine gc_aload_n (r := (some (a))) d_GC_layOut_55 rfl ?_
    obtain ⟨g11, eg11, hyp⟩ := md_bd hyp
    refine gc_getr (r := (some (a))) d_GC_layOut_56 fr_GC_40 eg11 ?_
    obtain ⟨a12, ea12, hyp⟩ := md_bd hyp
    obtain ⟨r12, er12, hyp⟩ := md_bd hyp
    refine gc_callf (r := (g11)) (as := []) d_GC_layOut_59 il_GC_85 ea12 (ag_w9 (ag_v1 rfl (ag_v1 rfl (ag_v1 (ag_cat_rf _) ag_v0))) (Nat.le_of_ble_eq_true rfl)) (w_AL_size hC (d := d) (by omega) er12) (fun v12 h12 q12 => ?_)
    obtain ⟨rfl, rfl⟩ := q12
    refine ag_icmp_gt d_GC_layOut_64 rfl (fun q => ?_) (fun q => ?_)
    · replace hyp := md_ifp q hyp
      exact ag_dr (ag_d1 rfl (ag_d1 rfl (ag_d1 rfl ag_d0))) (w_GC_layOut_85 hC hH hk2 hyp)
    · replace hyp := md_ifn q hyp
      refine gc_aload_n (r := (some (a))) d_GC_layOut_67 rfl ?_
      obtain ⟨g15, eg15, hyp⟩ := md_bd hyp
      refine gc_getr (r := (some (a))) d_GC_layOut_68 fr_GC_40 eg15 ?_
      refine ag_iload_n d_GC_layOut_71 rfl ?_
      refine ag_iconst d_GC_layOut_72 ?_
      refine ag_isub d_GC_layOut_73 ?_
      obtain ⟨a19, ea19, hyp⟩ := md_bd hyp
      obtain ⟨r19, er19, hyp⟩ := md_bd hyp
      refine gc_callf (r := (g15)) (as := [.int ((s0) - (Int32.ofInt 1))]) d_GC_layOut_74 il_GC_118 ea19 (ag_w9 (ag_v1 rfl (ag_v1 (ag_cat_rf _) ag_v0)) (Nat.le_of_ble_eq_true rfl)) (w_AL_get hC (d := d) (by omega) er19) (fun v19 h19 q19 => ?_)
      obtain ⟨rfl, rfl⟩ := q19
      obtain ⟨q20, hyp⟩ := md_ifs hyp
      refine gc_cast (r := (r19.1)) d_GC_layOut_79 gw_195 rfl q20 ?_
      refine ag_goto d_GC_layOut_82 rfl ?_
      exact ag_dr (ag_d1 rfl (ag_d1 rfl (ag_d1 rfl ag_d0))) (w_GC_layOut_92 hC hH hk2 hyp)
theorem w_GC_layOut_2 {l : Launch} {G : ag_G} {d N : Nat} {C : Nat × Nat} {a : Nat} (hC : ag_cN G = C.1 ∧ ag_cS G = C.2) (hH : 2 ≤ d) : ∀ (n : Nat) (res : (Int32) × ag_H) (x1 : Option Nat) (x2 : Int32) (h : ag_H) , fn_GC_layOut_2 N C a n x1 x2 h = some res → ag_ev gc_P l G m_GC_layOut (d + 1) (ag_ret gc_P G (fun v h' => v = none ∧ h' = res.2)) 2 [(0, .ref a), (1, ag_rf (x1)), (2, .int (x2))] [] h := by
  intro n
  induction n with
  | zero =>
    intro res x1 x2 h hyp
    cases hyp
  | succ n ih =>
    intro res x1 x2 h hyp
    rw [fe_GC_layOut_2] at hyp
    have hc : ag_C1 [(0, .ref a), (1, ag_rf (x1)), (2, .int (x2))] := (ag_c1 rfl (ag_c1 (ag_cat_rf _) (ag_c1 rfl ag_c0)))
    refine ag_iload_n d_GC_layOut_2 rfl ?_
    refine ag_iconst d_GC_layOut_3 ?_
    refine ag_icmp_ge d_GC_layOut_4 rfl (fun q => ?_) (fun q => ?_)
    · replace hyp := md_ifp q hyp
      refine gc_aload_n (r := (some (a))) d_GC_layOut_99 rfl ?_
      obtain ⟨g5, eg5, hyp⟩ := md_bd hyp
      refine gc_getr (r := (some (a))) d_GC_layOut_100 fr_GC_26 eg5 ?_
      obtain ⟨g6, eg6, hyp⟩ := md_bd hyp
      refine gc_getr (r := (g5)) d_GC_layOut_103 fr_GC_231 eg6 ?_
      refine ag_iconst d_GC_layOut_106 ?_
      refine gc_aload_n (r := (some (a))) d_GC_layOut_107 rfl ?_
      obtain ⟨g9, eg9, hyp⟩ := md_bd hyp
      refine gc_getr (r := (some (a))) d_GC_layOut_108 fr_GC_33 eg9 ?_
      obtain ⟨h10, eh10, hyp⟩ := md_bd hyp
      refine gc_ast (r := (g6)) (w := (g9)) d_GC_layOut_111 eh10 ?_
      cases hyp
      exact ag_vret d_GC_layOut_112 rfl ⟨rfl, rfl⟩
    · replace hyp := md_ifn q hyp
      refine ag_iload_n d_GC_layOut_7 rfl ?_
      refine gc_aload_n (r := (x1)) d_GC_layOut_8 rfl ?_
      obtain ⟨g14, eg14, hyp⟩ := md_bd hyp
      refine gc_getr (r := (x1)) d_GC_layOut_9 fr_GC_126 eg14 ?_
      obtain ⟨a15, ea15, hyp⟩ := md_bd hyp
      obtain ⟨r15, er15, hyp⟩ := md_bd hyp
      refine gc_callf (r := (g14)) (as := []) d_GC_layOut_12 il_GC_85 ea15 (Nat.le_of_ble_eq_true rfl) (w_AL_size hC (d := d) (by omega) er15) (fun v15 h15 q15 => ?_)
      obtain ⟨rfl, rfl⟩ := q15
      refine ag_icmp_ge d_GC_layOut_17 rfl (fun q => ?_) (fun q => ?_)
      · replace hyp := md_ifp q hyp
        refine ag_iconst d_GC_layOut_39 ?_
        exact ag_dr (ag_d1 rfl (ag_d1 rfl (ag_d1 rfl ag_d0))) (w_GC_layOut_40 hC hH ih hyp)
      · replace hyp := md_ifn q hyp
        refine gc_aload_n (r := (x1)) d_GC_layOut_20 rfl ?_
        obtain ⟨g19, eg19, hyp⟩ := md_bd hyp
        refine gc_getr (r := (x1)) d_GC_layOut_21 fr_GC_126 eg19 ?_
        refine ag_iload_n d_GC_layOut_24 rfl ?_
        obtain ⟨a21, ea21, hyp⟩ := md_bd hyp
        obtain ⟨r21, er21, hyp⟩ := md_bd hyp
        refine gc_callf (r := (g19)) (as := [.int (x2)]) d_GC_layOut_25 il_GC_118 ea21 (Nat.le_of_ble_eq_true rfl) (w_AL_get hC (d := d) (by omega) er21) (fun v21 h21 q21 => ?_)
        obtain ⟨rfl, rfl⟩ := q21
        obtain ⟨q22, hyp⟩ := md_ifs hyp
        refine gc_cast (r := (r21.1)) d_GC_layOut_30 gw_643 rfl q22 ?_
        obtain ⟨g23, eg23, hyp⟩ := md_bd hyp
        refine gc_geti (r := (r21.1)) d_GC_layOut_33 fr_GC_167 eg23 ?_
        refine ag_goto d_GC_layOut_36 rfl ?_
        exact ag_dr (ag_d1 rfl (ag_d1 rfl (ag_d1 rfl ag_d0))) (w_GC_layOut_40 hC hH ih hyp)
theorem w_GC_layOut_0 {l : Launch} {G : ag_G} {d N : Nat} {C : Nat × Nat} {a : Nat} (hC : ag_cN G = C.1 ∧ ag_cS G = C.2) (hH : 2 ≤ d) {x1 : Option Nat} {h : ag_H} {res : (Int32) × ag_H} (hyp : fn_GC_layOut_0 N C a x1 h = some res) : ag_ev gc_P l G m_GC_layOut (d + 1) (ag_ret gc_P G (fun v h' => v = none ∧ h' = res.2)) 0 [(0, .ref a), (1, ag_rf (x1))] [] h := by
  unfold fn_GC_layOut_0 at hyp
  have hc : ag_C1 [(0, .ref a), (1, ag_rf (x1))] := (ag_c1 rfl (ag_c1 (ag_cat_rf _) ag_c0))
  refine ag_iconst d_GC_layOut_0 ?_
  refine gc_istore_n d_GC_layOut_1 (by decide) hc ?_
  replace hc := ag_cs (i := 2) (v := .int (Int32.ofInt 0)) hc rfl
  exact ag_dr (ag_d1 rfl (ag_d1 rfl (ag_d1 rfl ag_d0))) (w_GC_layOut_2 hC hH N _ _ _ _ hyp)
theorem w_GC_layOut {l : Launch} {G : ag_G} {d N : Nat} {C : Nat × Nat} (hC : ag_cN G = C.1 ∧ ag_cS G = C.2) (hH : 2 + 1 ≤ d) {a : Nat} {p1 : Option Nat} {h : ag_H} {res : (Int32) × ag_H} (hyp : fn_GC_layOut N C a p1 h = some res) : ag_Met gc_P l G m_GC_layOut d [.ref a, ag_rf (p1)] h (fun v h' => v = none ∧ h' = res.2) := by
  obtain ⟨d, rfl, hG⟩ := md_dd hH
  exact ag_met0 (by decide) rfl (ag_v1 rfl (ag_v1 (ag_cat_rf _) ag_v0)) (Nat.le_of_ble_eq_true rfl) (ag_dr (ag_d1 rfl (ag_d1 rfl ag_d0)) (w_GC_layOut_0 hC hG hyp))
def fn_Fa_offer_106 (N : Nat) (C : Nat × Nat) (a : Nat) (h : ag_H) : Option ((Int32) × ag_H) := some (0, h)
def fn_Fa_offer_46 (N : Nat) (C : Nat × Nat) (a : Nat) : Nat → Option Nat → Int32 → ag_H → Option ((Int32) × ag_H)
  | 0, _, _, _ => none
  | n + 1, x5, x6, h => (ag_gi h (some (a)) 4 1).bind fun g3 => if (g3) ≤ (x6) then ((ag_gi h (some (a)) 4 1).bind fun g6 => (ag_gi h (some (a)) 4 3).bind fun g8 => if (g6) < (g8) then ((ag_gi h (some (a)) 4 1).bind fun g12 => (ag_pf h (ag_rf (some (a))) 4 1 .int (.int ((g12) + (Int32.ofInt 1)))).bind fun h15 => fn_Fa_offer_106 N C a  h15) else ((ag_pf h (ag_rf (some (a))) 4 2 .boolean (.int (Int32.ofInt 1))).bind fun h18 => fn_Fa_offer_106 N C a  h18)) else ((ag_gr h (some (a)) 4 0).bind fun g21 => (ag_ao h (g21)).bind fun p23 => if md_in (x6) p23.1 = true then ((fn_Fa_order N C (p23.2 (x6).toNatClampNeg) (x5) h).bind fun r25 => if (r25.1) = (0) then (some (0, r25.2)) else (fn_Fa_offer_46 N C a n (x5) ((x6) + Int32.ofInt (1)) r25.2)) else none)
theorem fe_Fa_offer_46 (N : Nat) (C : Nat × Nat) (a : Nat) (n : Nat) (x5 : Option Nat) (x6 : Int32) (h : ag_H) : fn_Fa_offer_46 N C a (n + 1) x5 x6 h = ((ag_gi h (some (a)) 4 1).bind fun g3 => if (g3) ≤ (x6) then ((ag_gi h (some (a)) 4 1).bind fun g6 => (ag_gi h (some (a)) 4 3).bind fun g8 => if (g6) < (g8) then ((ag_gi h (some (a)) 4 1).bind fun g12 => (ag_pf h (ag_rf (some (a))) 4 1 .int (.int ((g12) + (Int32.ofInt 1)))).bind fun h15 => fn_Fa_offer_106 N C a  h15) else ((ag_pf h (ag_rf (some (a))) 4 2 .boolean (.int (Int32.ofInt 1))).bind fun h18 => fn_Fa_offer_106 N C a  h18)) else ((ag_gr h (some (a)) 4 0).bind fun g21 => (ag_ao h (g21)).bind fun p23 => if md_in (x6) p23.1 = true then ((fn_Fa_order N C (p23.2 (x6).toNatClampNeg) (x5) h).bind fun r25 => if (r25.1) = (0) then (some (0, r25.2)) else (fn_Fa_offer_46 N C a n (x5) ((x6) + Int32.ofInt (1)) r25.2)) else none)) := rfl
def fn_Fa_offer_0 (N : Nat) (C : Nat × Nat) (a : Nat) (x1 : Option Nat) (x2 : Int32) (x3 : Int32) (x4 : Int32) (h : ag_H) : Option ((Int32) × ag_H) := (ag_gr h (some (a)) 4 0).bind fun g2 => (ag_gi h (some (a)) 4 1).bind fun g4 => (ag_ao h (g2)).bind fun p5 => if md_in (g4) p5.1 = true then ((ag_gi h (x1) 6 0).bind fun g10 => (ag_ai h 0 ((p5.2 (g4).toNatClampNeg))).bind fun p11 => if md_in (Int32.ofInt 0) p11.1 = true then ((ag_gi (ag_up h (((p5.2 (g4).toNatClampNeg)).getD 0) (.inl (0, p11.1, .inl (upd p11.2 (Int32.ofInt 0).toNatClampNeg (g10))))) (x1) 6 1).bind fun g15 => (ag_ai (ag_up h (((p5.2 (g4).toNatClampNeg)).getD 0) (.inl (0, p11.1, .inl (upd p11.2 (Int32.ofInt 0).toNatClampNeg (g10))))) 0 ((p5.2 (g4).toNatClampNeg))).bind fun p16 => if md_in (Int32.ofInt 1) p16.1 = true then ((ag_ai (ag_up (ag_up h (((p5.2 (g4).toNatClampNeg)).getD 0) (.inl (0, p11.1, .inl (upd p11.2 (Int32.ofInt 0).toNatClampNeg (g10))))) (((p5.2 (g4).toNatClampNeg)).getD 0) (.inl (0, p16.1, .inl (upd p16.2 (Int32.ofInt 1).toNatClampNeg (g15))))) 0 ((p5.2 (g4).toNatClampNeg))).bind fun p20 => if md_in (Int32.ofInt 2) p20.1 = true then ((ag_ai (ag_up (ag_up (ag_up h (((p5.2 (g4).toNatClampNeg)).getD 0) (.inl (0, p11.1, .inl (upd p11.2 (Int32.ofInt 0).toNatClampNeg (g10))))) (((p5.2 (g4).toNatClampNeg)).getD 0) (.inl (0, p16.1, .inl (upd p16.2 (Int32.ofInt 1).toNatClampNeg (g15))))) (((p5.2 (g4).toNatClampNeg)).getD 0) (.inl (0, p20.1, .inl (upd p20.2 (Int32.ofInt 2).toNatClampNeg (x2))))) 0 ((p5.2 (g4).toNatClampNeg))).bind fun p24 => if md_in (Int32.ofInt 3) p24.1 = true then ((ag_ai (ag_up (ag_up (ag_up (ag_up h (((p5.2 (g4).toNatClampNeg)).getD 0) (.inl (0, p11.1, .inl (upd p11.2 (Int32.ofInt 0).toNatClampNeg (g10))))) (((p5.2 (g4).toNatClampNeg)).getD 0) (.inl (0, p16.1, .inl (upd p16.2 (Int32.ofInt 1).toNatClampNeg (g15))))) (((p5.2 (g4).toNatClampNeg)).getD 0) (.inl (0, p20.1, .inl (upd p20.2 (Int32.ofInt 2).toNatClampNeg (x2))))) (((p5.2 (g4).toNatClampNeg)).getD 0) (.inl (0, p24.1, .inl (upd p24.2 (Int32.ofInt 3).toNatClampNeg (x3))))) 0 ((p5.2 (g4).toNatClampNeg))).bind fun p28 => if md_in (Int32.ofInt 4) p28.1 = true then (fn_Fa_offer_46 N C a N ((p5.2 (g4).toNatClampNeg)) (Int32.ofInt 0) (ag_up (ag_up (ag_up (ag_up (ag_up h (((p5.2 (g4).toNatClampNeg)).getD 0) (.inl (0, p11.1, .inl (upd p11.2 (Int32.ofInt 0).toNatClampNeg (g10))))) (((p5.2 (g4).toNatClampNeg)).getD 0) (.inl (0, p16.1, .inl (upd p16.2 (Int32.ofInt 1).toNatClampNeg (g15))))) (((p5.2 (g4).toNatClampNeg)).getD 0) (.inl (0, p20.1, .inl (upd p20.2 (Int32.ofInt 2).toNatClampNeg (x2))))) (((p5.2 (g4).toNatClampNeg)).getD 0) (.inl (0, p24.1, .inl (upd p24.2 (Int32.ofInt 3).toNatClampNeg (x3))))) (((p5.2 (g4).toNatClampNeg)).getD 0) (.inl (0, p28.1, .inl (upd p28.2 (Int32.ofInt 4).toNatClampNeg (x4)))))) else none) else none) else none) else none) else none) else none
def fn_Fa_offer (N : Nat) (C : Nat × Nat) (a : Nat) (p1 : Option Nat) (p2 : Int32) (p3 : Int32) (p4 : Int32) (h : ag_H) : Option ((Int32) × ag_H) := fn_Fa_offer_0 N C a p1 p2 p3 p4 h
theorem w_Fa_offer_106 {l : Launch} {G : ag_G} {d N : Nat} {C : Nat × Nat} {a : Nat} (hC : ag_cN G = C.1 ∧ ag_cS G = C.2) (hH : 0 ≤ d) {h : ag_H} {res : (Int32) × ag_H} (hyp : fn_Fa_offer_106 N C a h = some res) : ag_ev gc_P l G m_Fa_offer (d + 1) (ag_ret gc_P G (fun v h' => v = none ∧ h' = res.2)) 106 [(0, .ref a)] [] h := by
  unfold fn_Fa_offer_106 at hyp
  have hc : ag_C1 [(0, .ref a)] := (ag_c1 rfl ag_c0)
  cases hyp
  exact ag_vret d_Fa_offer_106 rfl ⟨rfl, rfl⟩
theorem w_Fa_offer_46 {l : Launch} {G : ag_G} {d N : Nat} {C : Nat × Nat} {a : Nat} (hC : ag_cN G = C.1 ∧ ag_cS G = C.2) (hH : 0 ≤ d) : ∀ (n : Nat) (res : (Int32) × ag_H) (x5 : Option Nat) (x6 : Int32) (h : ag_H) , fn_Fa_offer_46 N C a n x5 x6 h = some res → ag_ev gc_P l G m_Fa_offer (d + 1) (ag_ret gc_P G (fun v h' => v = none ∧ h' = res.2)) 46 [(0, .ref a), (5, ag_rf (x5)), (6, .int (x6))] [] h := by
  intro n
  induction n with
  | zero =>
    intro res x5 x6 h hyp
    cases hyp
  | succ n ih =>
    intro res x5 x6 h hyp
    rw [fe_Fa_offer_46] at hyp
    have hc : ag_C1 [(0, .ref a), (5, ag_rf (x5)), (6, .int (x6))] := (ag_c1 rfl (ag_c1 (ag_cat_rf _) (ag_c1 rfl ag_c0)))
    refine ag_iload d_Fa_offer_46 rfl ?_
    refine gc_aload_n (r := (some (a))) d_Fa_offer_48 rfl ?_
    obtain ⟨g3, eg3, hyp⟩ := md_bd hyp
    refine gc_geti (r := (some (a))) d_Fa_offer_49 fr_Fa_20 eg3 ?_
    refine ag_icmp_ge d_Fa_offer_52 rfl (fun q => ?_) (fun q => ?_)
    · replace hyp := md_ifp q hyp
      refine gc_aload_n (r := (some (a))) d_Fa_offer_77 rfl ?_
      obtain ⟨g6, eg6, hyp⟩ := md_bd hyp
      refine gc_geti (r := (some (a))) d_Fa_offer_78 fr_Fa_20 eg6 ?_
      refine gc_aload_n (r := (some (a))) d_Fa_offer_81 rfl ?_
      obtain ⟨g8, eg8, hyp⟩ := md_bd hyp
      refine gc_geti (r := (some (a))) d_Fa_offer_82 fr_Fa_16 eg8 ?_
      refine ag_icmp_lt d_Fa_offer_85 rfl (fun q => ?_) (fun q => ?_)
      · replace hyp := md_ifp q hyp
        refine gc_aload_n (r := (some (a))) d_Fa_offer_96 rfl ?_
        refine ag_dup d_Fa_offer_97 rfl ?_
        obtain ⟨g12, eg12, hyp⟩ := md_bd hyp
        refine gc_geti (r := (some (a))) d_Fa_offer_98 fr_Fa_20 eg12 ?_
        refine ag_iconst d_Fa_offer_101 ?_
        refine ag_iadd d_Fa_offer_102 ?_
        obtain ⟨h15, eh15, hyp⟩ := md_bd hyp
        refine gc_putf (r := (some (a))) d_Fa_offer_103 fl_Fa_20 (fun q => by cases q) eh15 ?_
        exact ag_dr (ag_d1 rfl ag_d0) (w_Fa_offer_106 hC hH hyp)
      · replace hyp := md_ifn q hyp
        refine gc_aload_n (r := (some (a))) d_Fa_offer_88 rfl ?_
        refine ag_iconst d_Fa_offer_89 ?_
        obtain ⟨h18, eh18, hyp⟩ := md_bd hyp
        refine gc_putf (r := (some (a))) d_Fa_offer_90 fl_Fa_23 (fun q => by cases q) eh18 ?_
        refine ag_goto d_Fa_offer_93 rfl ?_
        exact ag_dr (ag_d1 rfl ag_d0) (w_Fa_offer_106 hC hH hyp)
    · replace hyp := md_ifn q hyp
      refine gc_aload_n (r := (some (a))) d_Fa_offer_55 rfl ?_
      obtain ⟨g21, eg21, hyp⟩ := md_bd hyp
      refine gc_getr (r := (some (a))) d_Fa_offer_56 fr_Fa_13 eg21 ?_
      refine ag_iload d_Fa_offer_59 rfl ?_
      obtain ⟨p23, ep23, hyp⟩ := md_bd hyp
      obtain ⟨q23, hyp⟩ := md_ifs hyp
      refine gc_ald (r := (g21)) d_Fa_offer_61 ep23 q23 ?_
      refine gc_aload (r := (x5)) d_Fa_offer_62 rfl ?_
      obtain ⟨r25, er25, hyp⟩ := md_bd hyp
      refine ag_calls (as := [ag_rf (p23.2 (x6).toNatClampNeg), ag_rf (x5)]) d_Fa_offer_64 ml_Fa_33 gw_833 (Nat.le_of_ble_eq_true rfl) (w_Fa_order hC (d := d) (by omega) er25) (fun v25 h25 q25 => ?_)
      obtain ⟨rfl, rfl⟩ := q25
      refine ag_if_ne d_Fa_offer_67 rfl (fun q => ?_) (fun q => ?_)
      · replace hyp := md_ifn q hyp
        refine gc_iinc d_Fa_offer_71 rfl (by decide) hc ?_
        replace hc := ag_cs (i := 6) (v := .int ((x6) + Int32.ofInt (1))) hc rfl
        refine ag_goto d_Fa_offer_74 rfl ?_
        exact ag_dr (ag_d1 rfl (ag_d1 rfl (ag_d1 rfl ag_d0))) (ih _ _ _ _ hyp)
      · replace hyp := md_ifp q hyp
        cases hyp
        exact ag_vret d_Fa_offer_70 rfl ⟨rfl, rfl⟩
theorem w_Fa_offer_0 {l : Launch} {G : ag_G} {d N : Nat} {C : Nat × Nat} {a : Nat} (hC : ag_cN G = C.1 ∧ ag_cS G = C.2) (hH : 0 ≤ d) {x1 : Option Nat} {x2 : Int32} {x3 : Int32} {x4 : Int32} {h : ag_H} {res : (Int32) × ag_H} (hyp : fn_Fa_offer_0 N C a x1 x2 x3 x4 h = some res) : ag_ev gc_P l G m_Fa_offer (d + 1) (ag_ret gc_P G (fun v h' => v = none ∧ h' = res.2)) 0 [(0, .ref a), (1, ag_rf (x1)), (2, .int (x2)), (3, .int (x3)), (4, .int (x4))] [] h := by
  unfold fn_Fa_offer_0 at hyp
  have hc : ag_C1 [(0, .ref a), (1, ag_rf (x1)), (2, .int (x2)), (3, .int (x3)), (4, .int (x4))] := (ag_c1 rfl (ag_c1 (ag_cat_rf _) (ag_c1 rfl (ag_c1 rfl (ag_c1 rfl ag_c0)))))
  refine gc_aload_n (r := (some (a))) d_Fa_offer_0 rfl ?_
  obtain ⟨g2, eg2, hyp⟩ := md_bd hyp
  refine gc_getr (r := (some (a))) d_Fa_offer_1 fr_Fa_13 eg2 ?_
  refine gc_aload_n (r := (some (a))) d_Fa_offer_4 rfl ?_
  obtain ⟨g4, eg4, hyp⟩ := md_bd hyp
  refine gc_geti (r := (some (a))) d_Fa_offer_5 fr_Fa_20 eg4 ?_
  obtain ⟨p5, ep5, hyp⟩ := md_bd hyp
  obtain ⟨q5, hyp⟩ := md_ifs hyp
  refine gc_ald (r := (g2)) d_Fa_offer_8 ep5 q5 ?_
  refine gc_astore0 (r := (p5.2 (g4).toNatClampNeg)) d_Fa_offer_9 (by decide) hc ?_
  replace hc := ag_cs (i := 5) (v := ag_rf (p5.2 (g4).toNatClampNeg)) hc (ag_cat_rf _)
  refine gc_aload (r := ((p5.2 (g4).toNatClampNeg))) d_Fa_offer_11 rfl ?_
  refine ag_iconst d_Fa_offer_13 ?_
  refine gc_aload_n (r := (x1)) d_Fa_offer_14 rfl ?_
  obtain ⟨g10, eg10, hyp⟩ := md_bd hyp
  refine gc_geti (r := (x1)) d_Fa_offer_15 fr_Fa_27 eg10 ?_
  obtain ⟨p11, ep11, hyp⟩ := md_bd hyp
  obtain ⟨q11, hyp⟩ := md_ifs hyp
  refine gc_ist (r := ((p5.2 (g4).toNatClampNeg))) d_Fa_offer_18 ep11 q11 ?_
  refine gc_aload (r := ((p5.2 (g4).toNatClampNeg))) d_Fa_offer_19 rfl ?_
  refine ag_iconst d_Fa_offer_21 ?_
  refine gc_aload_n (r := (x1)) d_Fa_offer_22 rfl ?_
  obtain ⟨g15, eg15, hyp⟩ := md_bd hyp
  refine gc_geti (r := (x1)) d_Fa_offer_23 fr_Fa_32 eg15 ?_
  obtain ⟨p16, ep16, hyp⟩ := md_bd hyp
  obtain ⟨q16, hyp⟩ := md_ifs hyp
  refine gc_ist (r := ((p5.2 (g4).toNatClampNeg))) d_Fa_offer_26 ep16 q16 ?_
  refine gc_aload (r := ((p5.2 (g4).toNatClampNeg))) d_Fa_offer_27 rfl ?_
  refine ag_iconst d_Fa_offer_29 ?_
  refine ag_iload_n d_Fa_offer_30 rfl ?_
  obtain ⟨p20, ep20, hyp⟩ := md_bd hyp
  obtain ⟨q20, hyp⟩ := md_ifs hyp
  refine gc_ist (r := ((p5.2 (g4).toNatClampNeg))) d_Fa_offer_31 ep20 q20 ?_
  refine gc_aload (r := ((p5.2 (g4).toNatClampNeg))) d_Fa_offer_32 rfl ?_
  refine ag_iconst d_Fa_offer_34 ?_
  refine ag_iload_n d_Fa_offer_35 rfl ?_
  obtain ⟨p24, ep24, hyp⟩ := md_bd hyp
  obtain ⟨q24, hyp⟩ := md_ifs hyp
  refine gc_ist (r := ((p5.2 (g4).toNatClampNeg))) d_Fa_offer_36 ep24 q24 ?_
  refine gc_aload (r := ((p5.2 (g4).toNatClampNeg))) d_Fa_offer_37 rfl ?_
  refine ag_iconst d_Fa_offer_39 ?_
  refine ag_iload d_Fa_offer_40 rfl ?_
  obtain ⟨p28, ep28, hyp⟩ := md_bd hyp
  obtain ⟨q28, hyp⟩ := md_ifs hyp
  refine gc_ist (r := ((p5.2 (g4).toNatClampNeg))) d_Fa_offer_42 ep28 q28 ?_
  refine ag_iconst d_Fa_offer_43 ?_
  refine gc_istore d_Fa_offer_44 (by decide) hc ?_
  replace hc := ag_cs (i := 6) (v := .int (Int32.ofInt 0)) hc rfl
  exact ag_dr (ag_d1 rfl (ag_d1 rfl (ag_d1 rfl ag_d0))) (w_Fa_offer_46 hC hH N _ _ _ _ hyp)
theorem w_Fa_offer {l : Launch} {G : ag_G} {d N : Nat} {C : Nat × Nat} (hC : ag_cN G = C.1 ∧ ag_cS G = C.2) (hH : 0 + 1 ≤ d) {a : Nat} {p1 : Option Nat} {p2 : Int32} {p3 : Int32} {p4 : Int32} {h : ag_H} {res : (Int32) × ag_H} (hyp : fn_Fa_offer N C a p1 p2 p3 p4 h = some res) : ag_Met gc_P l G m_Fa_offer d [.ref a, ag_rf (p1), .int (p2), .int (p3), .int (p4)] h (fun v h' => v = none ∧ h' = res.2) := by
  obtain ⟨d, rfl, hG⟩ := md_dd hH
  exact ag_met0 (by decide) rfl (ag_v1 rfl (ag_v1 (ag_cat_rf _) (ag_v1 rfl (ag_v1 rfl (ag_v1 rfl ag_v0))))) (Nat.le_of_ble_eq_true rfl) (ag_dr (ag_d1 rfl (ag_d1 rfl (ag_d1 rfl (ag_d1 rfl (ag_d1 rfl ag_d0))))) (w_Fa_offer_0 hC hG hyp))
def fn_Jg_layFacts_88 (N : Nat) (C : Nat × Nat) (a : Nat) (k2 : Int32 → ag_H → Option ((Int32) × ag_H)) (k19 : Int32 → Option Nat → Int32 → ag_H → Option ((Int32) × ag_H)) (x1 : Int32) (x2 : Option Nat) (x3 : Int32) (h : ag_H) : Option ((Int32) × ag_H) := k19 (x1) (x2) ((x3) + Int32.ofInt (1)) h
def fn_Jg_layFacts_19 (N : Nat) (C : Nat × Nat) (a : Nat) (k2 : Int32 → ag_H → Option ((Int32) × ag_H)) : Nat → Int32 → Option Nat → Int32 → ag_H → Option ((Int32) × ag_H)
  | 0, _, _, _, _ => none
  | n + 1, x1, x2, x3, h => (ag_rc h (x2) 11).bind fun a3 => (fn_AL_size N C a3  h).bind fun r3 => if (r3.1) ≤ (x3) then (k2 ((x1) + Int32.ofInt (1)) r3.2) else ((ag_rc r3.2 (x2) 11).bind fun a9 => (fn_AL_get N C a9 (x3) r3.2).bind fun r9 => if ag_ck r9.2 (r9.1) 7 = true then ((ag_gi r9.2 ((r9.1)) 7 0).bind fun g13 => if (g13) = (0) then ((ag_gr r9.2 ((r9.1)) 7 2).bind fun g16 => if (g16) = none then (fn_Jg_layFacts_88 N C a k2 (fn_Jg_layFacts_19 N C a k2 n) (x1) (x2) (x3) r9.2) else ((ag_gr r9.2 (some (a)) 3 0).bind fun g19 => (ag_gr r9.2 ((r9.1)) 7 2).bind fun g21 => (ag_gr r9.2 ((r9.1)) 7 2).bind fun g23 => (ag_gi r9.2 (g23) 6 2).bind fun g24 => (ag_gr r9.2 ((r9.1)) 7 2).bind fun g26 => (ag_gi r9.2 (g26) 6 3).bind fun g27 => (ag_rc r9.2 (g19) 4).bind fun a31 => (fn_Fa_offer N C a31 (g21) (g24) (g27) ((Int32.ofInt 1) <<< ((x1) &&& 31)) r9.2).bind fun r31 => fn_Jg_layFacts_88 N C a k2 (fn_Jg_layFacts_19 N C a k2 n) (x1) (x2) (x3) r31.2)) else (fn_Jg_layFacts_88 N C a k2 (fn_Jg_layFacts_19 N C a k2 n) (x1) (x2) (x3) r9.2)) else none)
theorem fe_Jg_layFacts_19 (N : Nat) (C : Nat × Nat) (a : Nat) (k2 : Int32 → ag_H → Option ((Int32) × ag_H)) (n : Nat) (x1 : Int32) (x2 : Option Nat) (x3 : Int32) (h : ag_H) : fn_Jg_layFacts_19 N C a k2 (n + 1) x1 x2 x3 h = ((ag_rc h (x2) 11).bind fun a3 => (fn_AL_size N C a3  h).bind fun r3 => if (r3.1) ≤ (x3) then (k2 ((x1) + Int32.ofInt (1)) r3.2) else ((ag_rc r3.2 (x2) 11).bind fun a9 => (fn_AL_get N C a9 (x3) r3.2).bind fun r9 => if ag_ck r9.2 (r9.1) 7 = true then ((ag_gi r9.2 ((r9.1)) 7 0).bind fun g13 => if (g13) = (0) then ((ag_gr r9.2 ((r9.1)) 7 2).bind fun g16 => if (g16) = none then (fn_Jg_layFacts_88 N C a k2 (fn_Jg_layFacts_19 N C a k2 n) (x1) (x2) (x3) r9.2) else ((ag_gr r9.2 (some (a)) 3 0).bind fun g19 => (ag_gr r9.2 ((r9.1)) 7 2).bind fun g21 => (ag_gr r9.2 ((r9.1)) 7 2).bind fun g23 => (ag_gi r9.2 (g23) 6 2).bind fun g24 => (ag_gr r9.2 ((r9.1)) 7 2).bind fun g26 => (ag_gi r9.2 (g26) 6 3).bind fun g27 => (ag_rc r9.2 (g19) 4).bind fun a31 => (fn_Fa_offer N C a31 (g21) (g24) (g27) ((Int32.ofInt 1) <<< ((x1) &&& 31)) r9.2).bind fun r31 => fn_Jg_layFacts_88 N C a k2 (fn_Jg_layFacts_19 N C a k2 n) (x1) (x2) (x3) r31.2)) else (fn_Jg_layFacts_88 N C a k2 (fn_Jg_layFacts_19 N C a k2 n) (x1) (x2) (x3) r9.2)) else none)) := rfl
def fn_Jg_layFacts_2 (N : Nat) (C : Nat × Nat) (a : Nat) : Nat → Int32 → ag_H → Option ((Int32) × ag_H)
  | 0, _, _ => none
  | n + 1, x1, h => if (Int32.ofInt 5) ≤ (x1) then (some (0, h)) else ((ag_gr h (some (a)) 3 2).bind fun g6 => (ag_ao h (g6)).bind fun p8 => if md_in (x1) p8.1 = true then ((ag_gr h (p8.2 (x1).toNatClampNeg) 5 0).bind fun g9 => fn_Jg_layFacts_19 N C a (fn_Jg_layFacts_2 N C a n) N (x1) ((g9)) (Int32.ofInt 0) h) else none)
theorem fe_Jg_layFacts_2 (N : Nat) (C : Nat × Nat) (a : Nat) (n : Nat) (x1 : Int32) (h : ag_H) : fn_Jg_layFacts_2 N C a (n + 1) x1 h = (if (Int32.ofInt 5) ≤ (x1) then (some (0, h)) else ((ag_gr h (some (a)) 3 2).bind fun g6 => (ag_ao h (g6)).bind fun p8 => if md_in (x1) p8.1 = true then ((ag_gr h (p8.2 (x1).toNatClampNeg) 5 0).bind fun g9 => fn_Jg_layFacts_19 N C a (fn_Jg_layFacts_2 N C a n) N (x1) ((g9)) (Int32.ofInt 0) h) else none)) := rfl
def fn_Jg_layFacts_0 (N : Nat) (C : Nat × Nat) (a : Nat) (h : ag_H) : Option ((Int32) × ag_H) := fn_Jg_layFacts_2 N C a N (Int32.ofInt 0) h
def fn_Jg_layFacts (N : Nat) (C : Nat × Nat) (a : Nat) (h : ag_H) : Option ((Int32) × ag_H) := fn_Jg_layFacts_0 N C a h
theorem w_Jg_layFacts_88 {l : Launch} {G : ag_G} {d N : Nat} {C : Nat × Nat} {a : Nat} (hC : ag_cN G = C.1 ∧ ag_cS G = C.2) (hH : 2 ≤ d) {k2 : Int32 → ag_H → Option ((Int32) × ag_H)} {k19 : Int32 → Option Nat → Int32 → ag_H → Option ((Int32) × ag_H)} (hk2 : ∀ (res : (Int32) × ag_H) (y1 : Int32) (hh : ag_H), k2 y1 hh = some res → ag_ev gc_P l G m_Jg_layFacts (d + 1) (ag_ret gc_P G (fun v h' => v = none ∧ h' = res.2)) 2 [(0, .ref a), (1, .int (y1))] [] hh) (hk19 : ∀ (res : (Int32) × ag_H) (y1 : Int32) (y2 : Option Nat) (y3 : Int32) (hh : ag_H), k19 y1 y2 y3 hh = some res → ag_ev gc_P l G m_Jg_layFacts (d + 1) (ag_ret gc_P G (fun v h' => v = none ∧ h' = res.2)) 19 [(0, .ref a), (1, .int (y1)), (2, ag_rf (y2)), (3, .int (y3))] [] hh) {x1 : Int32} {x2 : Option Nat} {x3 : Int32} {h : ag_H} {res : (Int32) × ag_H} (hyp : fn_Jg_layFacts_88 N C a k2 k19 x1 x2 x3 h = some res) : ag_ev gc_P l G m_Jg_layFacts (d + 1) (ag_ret gc_P G (fun v h' => v = none ∧ h' = res.2)) 88 [(0, .ref a), (1, .int (x1)), (2, ag_rf (x2)), (3, .int (x3))] [] h := by
  unfold fn_Jg_layFacts_88 at hyp
  have hc : ag_C1 [(0, .ref a), (1, .int (x1)), (2, ag_rf (x2)), (3, .int (x3))] := (ag_c1 rfl (ag_c1 rfl (ag_c1 (ag_cat_rf _) (ag_c1 rfl ag_c0))))
  refine gc_iinc d_Jg_layFacts_88 rfl (by decide) hc ?_
  replace hc := ag_cs (i := 3) (v := .int ((x3) + Int32.ofInt (1))) hc rfl
  refine ag_goto d_Jg_layFacts_91 rfl ?_
  exact ag_dr (ag_d1 rfl (ag_d1 rfl (ag_d1 rfl (ag_d1 rfl ag_d0)))) (hk19 _ _ _ _ _ hyp)
theorem w_Jg_layFacts_19 {l : Launch} {G : ag_G} {d N : Nat} {C : Nat × Nat} {a : Nat} (hC : ag_cN G = C.1 ∧ ag_cS G = C.2) (hH : 2 ≤ d) {k2 : Int32 → ag_H → Option ((Int32) × ag_H)} (hk2 : ∀ (res : (Int32) × ag_H) (y1 : Int32) (hh : ag_H), k2 y1 hh = some res → ag_ev gc_P l G m_Jg_layFacts (d + 1) (ag_ret gc_P G (fun v h' => v = none ∧ h' = res.2)) 2 [(0, .ref a), (1, .int (y1))] [] hh) : ∀ (n : Nat) (res : (Int32) × ag_H) (x1 : Int32) (x2 : Option Nat) (x3 : Int32) (h : ag_H) , fn_Jg_layFacts_19 N C a k2 n x1 x2 x3 h = some res → ag_ev gc_P l G m_Jg_layFacts (d + 1) (ag_ret gc_P G (fun v h' => v = none ∧ h' = res.2)) 19 [(0, .ref a), (1, .int (x1)), (2, ag_rf (x2)), (3, .int (x3))] [] h := by
  intro n
  induction n with
  | zero =>
    intro res x1 x2 x3 h hyp
    cases hyp
  | succ n ih =>
    intro res x1 x2 x3 h hyp
    rw [fe_Jg_layFacts_19] at hyp
    have hc : ag_C1 [(0, .ref a), (1, .int (x1)), (2, ag_rf (x2)), (3, .int (x3))] := (ag_c1 rfl (ag_c1 rfl (ag_c1 (ag_cat_rf _) (ag_c1 rfl ag_c0))))
    refine ag_iload_n d_Jg_layFacts_19 rfl ?_
    refine gc_aload_n (r := (x2)) d_Jg_layFacts_20 rfl ?_
    obtain ⟨a3, ea3, hyp⟩ := md_bd hyp
    obtain ⟨r3, er3, hyp⟩ := md_bd hyp
    refine gc_callf (r := (x2)) (as := []) d_Jg_layFacts_21 il_Jg_84 ea3 (Nat.le_of_ble_eq_true rfl) (w_AL_size hC (d := d) (by omega) er3) (fun v3 h3 q3 => ?_)
    obtain ⟨rfl, rfl⟩ := q3
    refine ag_icmp_ge d_Jg_layFacts_26 rfl (fun q => ?_) (fun q => ?_)
    · replace hyp := md_ifp q hyp
      refine gc_iinc d_Jg_layFacts_94 rfl (by decide) hc ?_
      replace hc := ag_cs (i := 1) (v := .int ((x1) + Int32.ofInt (1))) hc rfl
      refine ag_goto d_Jg_layFacts_97 rfl ?_
      exact ag_dr (ag_d1 rfl (ag_d1 rfl ag_d0)) (hk2 _ _ _ hyp)
    · replace hyp := md_ifn q hyp
      refine gc_aload_n (r := (x2)) d_Jg_layFacts_29 rfl ?_
      refine ag_iload_n d_Jg_layFacts_30 rfl ?_
      obtain ⟨a9, ea9, hyp⟩ := md_bd hyp
      obtain ⟨r9, er9, hyp⟩ := md_bd hyp
      refine gc_callf (r := (x2)) (as := [.int (x3)]) d_Jg_layFacts_31 il_Jg_88 ea9 (Nat.le_of_ble_eq_true rfl) (w_AL_get hC (d := d) (by omega) er9) (fun v9 h9 q9 => ?_)
      obtain ⟨rfl, rfl⟩ := q9
      obtain ⟨q10, hyp⟩ := md_ifs hyp
      refine gc_cast (r := (r9.1)) d_Jg_layFacts_36 gw_851 rfl q10 ?_
      refine gc_astore0 (r := (r9.1)) d_Jg_layFacts_39 (by decide) hc ?_
      replace hc := ag_cs (i := 4) (v := ag_rf (r9.1)) hc (ag_cat_rf _)
      refine gc_aload (r := ((r9.1))) d_Jg_layFacts_41 rfl ?_
      obtain ⟨g13, eg13, hyp⟩ := md_bd hyp
      refine gc_geti (r := ((r9.1))) d_Jg_layFacts_43 fr_Jg_94 eg13 ?_
      refine ag_if_ne d_Jg_layFacts_46 rfl (fun q => ?_) (fun q => ?_)
      · replace hyp := md_ifn q hyp
        exact ag_dr (ag_d1 rfl (ag_d1 rfl (ag_d1 rfl (ag_d1 rfl ag_d0)))) (w_Jg_layFacts_88 hC hH hk2 ih hyp)
      · replace hyp := md_ifp q hyp
        refine gc_aload (r := ((r9.1))) d_Jg_layFacts_49 rfl ?_
        obtain ⟨g16, eg16, hyp⟩ := md_bd hyp
        refine gc_getr (r := ((r9.1))) d_Jg_layFacts_51 fr_Jg_97 eg16 ?_
        refine gc_ifnull (r := (g16)) d_Jg_layFacts_54 rfl (fun q => ?_) (fun q => ?_)
        · replace hyp := md_ifp q hyp
          exact ag_dr (ag_d1 rfl (ag_d1 rfl (ag_d1 rfl (ag_d1 rfl ag_d0)))) (w_Jg_layFacts_88 hC hH hk2 ih hyp)
        · replace hyp := md_ifn q hyp
          refine gc_aload_n (r := (some (a))) d_Jg_layFacts_57 rfl ?_
          obtain ⟨g19, eg19, hyp⟩ := md_bd hyp
          refine gc_getr (r := (some (a))) d_Jg_layFacts_58 fr_Jg_14 eg19 ?_
          refine gc_aload (r := ((r9.1))) d_Jg_layFacts_61 rfl ?_
          obtain ⟨g21, eg21, hyp⟩ := md_bd hyp
          refine gc_getr (r := ((r9.1))) d_Jg_layFacts_63 fr_Jg_97 eg21 ?_
          refine gc_aload (r := ((r9.1))) d_Jg_layFacts_66 rfl ?_
          obtain ⟨g23, eg23, hyp⟩ := md_bd hyp
          refine gc_getr (r := ((r9.1))) d_Jg_layFacts_68 fr_Jg_97 eg23 ?_
          obtain ⟨g24, eg24, hyp⟩ := md_bd hyp
          refine gc_geti (r := (g23)) d_Jg_layFacts_71 fr_Jg_101 eg24 ?_
          refine gc_aload (r := ((r9.1))) d_Jg_layFacts_74 rfl ?_
          obtain ⟨g26, eg26, hyp⟩ := md_bd hyp
          refine gc_getr (r := ((r9.1))) d_Jg_layFacts_76 fr_Jg_97 eg26 ?_
          obtain ⟨g27, eg27, hyp⟩ := md_bd hyp
          refine gc_geti (r := (g26)) d_Jg_layFacts_79 fr_Jg_106 eg27 ?_
          refine ag_iconst d_Jg_layFacts_82 ?_
          refine ag_iload_n d_Jg_layFacts_83 rfl ?_
          refine ag_ishl d_Jg_layFacts_84 ?_
          obtain ⟨a31, ea31, hyp⟩ := md_bd hyp
          obtain ⟨r31, er31, hyp⟩ := md_bd hyp
          refine gc_callv (r := (g19)) (as := [ag_rf (g21), .int (g24), .int (g27), .int ((Int32.ofInt 1) <<< ((x1) &&& 31))]) d_Jg_layFacts_85 ml_Jg_109 gw_853 rfl sl_Fa_offer ea31 (Nat.le_of_ble_eq_true rfl) (w_Fa_offer hC (d := d) (by omega) er31) (fun v31 h31 q31 => ?_)
          obtain ⟨rfl, rfl⟩ := q31
          exact ag_dr (ag_d1 rfl (ag_d1 rfl (ag_d1 rfl (ag_d1 rfl ag_d0)))) (w_Jg_layFacts_88 hC hH hk2 ih hyp)
theorem w_Jg_layFacts_2 {l : Launch} {G : ag_G} {d N : Nat} {C : Nat × Nat} {a : Nat} (hC : ag_cN G = C.1 ∧ ag_cS G = C.2) (hH : 2 ≤ d) : ∀ (n : Nat) (res : (Int32) × ag_H) (x1 : Int32) (h : ag_H) , fn_Jg_layFacts_2 N C a n x1 h = some res → ag_ev gc_P l G m_Jg_layFacts (d + 1) (ag_ret gc_P G (fun v h' => v = none ∧ h' = res.2)) 2 [(0, .ref a), (1, .int (x1))] [] h := by
  intro n
  induction n with
  | zero =>
    intro res x1 h hyp
    cases hyp
  | succ n ih =>
    intro res x1 h hyp
    rw [fe_Jg_layFacts_2] at hyp
    have hc : ag_C1 [(0, .ref a), (1, .int (x1))] := (ag_c1 rfl (ag_c1 rfl ag_c0))
    refine ag_iload_n d_Jg_layFacts_2 rfl ?_
    refine ag_iconst d_Jg_layFacts_3 ?_
    refine ag_icmp_ge d_Jg_layFacts_4 rfl (fun q => ?_) (fun q => ?_)
    · replace hyp := md_ifp q hyp
      cases hyp
      exact ag_vret d_Jg_layFacts_100 rfl ⟨rfl, rfl⟩
    · replace hyp := md_ifn q hyp
      refine gc_aload_n (r := (some (a))) d_Jg_layFacts_7 rfl ?_
      obtain ⟨g6, eg6, hyp⟩ := md_bd hyp
      refine gc_getr (r := (some (a))) d_Jg_layFacts_8 fr_Jg_25 eg6 ?_
      refine ag_iload_n d_Jg_layFacts_11 rfl ?_
      obtain ⟨p8, ep8, hyp⟩ := md_bd hyp
      obtain ⟨q8, hyp⟩ := md_ifs hyp
      refine gc_ald (r := (g6)) d_Jg_layFacts_12 ep8 q8 ?_
      obtain ⟨g9, eg9, hyp⟩ := md_bd hyp
      refine gc_getr (r := (p8.2 (x1).toNatClampNeg)) d_Jg_layFacts_13 fr_Jg_80 eg9 ?_
      refine gc_astore0_n (r := (g9)) d_Jg_layFacts_16 (by decide) hc ?_
      replace hc := ag_cs (i := 2) (v := ag_rf (g9)) hc (ag_cat_rf _)
      refine ag_iconst d_Jg_layFacts_17 ?_
      refine gc_istore_n d_Jg_layFacts_18 (by decide) hc ?_
      replace hc := ag_cs (i := 3) (v := .int (Int32.ofInt 0)) hc rfl
      exact ag_dr (ag_d1 rfl (ag_d1 rfl (ag_d1 rfl (ag_d1 rfl ag_d0)))) (w_Jg_layFacts_19 hC hH ih N _ _ _ _ _ hyp)
theorem w_Jg_layFacts_0 {l : Launch} {G : ag_G} {d N : Nat} {C : Nat × Nat} {a : Nat} (hC : ag_cN G = C.1 ∧ ag_cS G = C.2) (hH : 2 ≤ d) {h : ag_H} {res : (Int32) × ag_H} (hyp : fn_Jg_layFacts_0 N C a h = some res) : ag_ev gc_P l G m_Jg_layFacts (d + 1) (ag_ret gc_P G (fun v h' => v = none ∧ h' = res.2)) 0 [(0, .ref a)] [] h := by
  unfold fn_Jg_layFacts_0 at hyp
  have hc : ag_C1 [(0, .ref a)] := (ag_c1 rfl ag_c0)
  refine ag_iconst d_Jg_layFacts_0 ?_
  refine gc_istore_n d_Jg_layFacts_1 (by decide) hc ?_
  replace hc := ag_cs (i := 1) (v := .int (Int32.ofInt 0)) hc rfl
  exact ag_dr (ag_d1 rfl (ag_d1 rfl ag_d0)) (w_Jg_layFacts_2 hC hH N _ _ _ hyp)
theorem w_Jg_layFacts {l : Launch} {G : ag_G} {d N : Nat} {C : Nat × Nat} (hC : ag_cN G = C.1 ∧ ag_cS G = C.2) (hH : 2 + 1 ≤ d) {a : Nat} {h : ag_H} {res : (Int32) × ag_H} (hyp : fn_Jg_layFacts N C a h = some res) : ag_Met gc_P l G m_Jg_layFacts d [.ref a] h (fun v h' => v = none ∧ h' = res.2) := by
  obtain ⟨d, rfl, hG⟩ := md_dd hH
  exact ag_met (by decide) rfl (Nat.le_of_ble_eq_true rfl) (ag_dr (ag_d1 rfl ag_d0) (w_Jg_layFacts_0 hC hG hyp))
def fn_Jg_valueOf_19 (N : Nat) (C : Nat × Nat) (a : Nat) (s0 : Int32) (h : ag_H) : Option ((Int32) × ag_H) := some ((s0), h)
def fn_Jg_valueOf_0 (N : Nat) (C : Nat × Nat) (a : Nat) (x1 : Int32) (h : ag_H) : Option ((Int32) × ag_H) := if (x1) < ((1048576 : Int32)) then (fn_Jg_valueOf_19 N C a (x1) h) else ((ag_gr h (some (a)) 3 6).bind fun g6 => (ag_ai h 0 (g6)).bind fun p10 => if md_in ((x1) - ((1048576 : Int32))) p10.1 = true then (fn_Jg_valueOf_19 N C a (p10.2 ((x1) - ((1048576 : Int32))).toNatClampNeg) h) else none)
def fn_Jg_valueOf (N : Nat) (C : Nat × Nat) (a : Nat) (p1 : Int32) (h : ag_H) : Option ((Int32) × ag_H) := fn_Jg_valueOf_0 N C a p1 h
theorem w_Jg_valueOf_19 {l : Launch} {G : ag_G} {d N : Nat} {C : Nat × Nat} {a : Nat} (hC : ag_cN G = C.1 ∧ ag_cS G = C.2) {s0 : Int32} {h : ag_H} {res : (Int32) × ag_H} (hyp : fn_Jg_valueOf_19 N C a s0 h = some res) : ag_ev gc_P l G m_Jg_valueOf (d) (ag_ret gc_P G (fun v h' => v = some (.int res.1) ∧ h' = res.2)) 19 [(0, .ref a)] [.int (s0)] h := by
  unfold fn_Jg_valueOf_19 at hyp
  have hc : ag_C1 [(0, .ref a)] := (ag_c1 rfl ag_c0)
  cases hyp
  exact ag_iret d_Jg_valueOf_19 rfl rfl ⟨rfl, rfl⟩
theorem w_Jg_valueOf_0 {l : Launch} {G : ag_G} {d N : Nat} {C : Nat × Nat} {a : Nat} (hC : ag_cN G = C.1 ∧ ag_cS G = C.2) {x1 : Int32} {h : ag_H} {res : (Int32) × ag_H} (hyp : fn_Jg_valueOf_0 N C a x1 h = some res) : ag_ev gc_P l G m_Jg_valueOf (d) (ag_ret gc_P G (fun v h' => v = some (.int res.1) ∧ h' = res.2)) 0 [(0, .ref a), (1, .int (x1))] [] h := by
  unfold fn_Jg_valueOf_0 at hyp
  have hc : ag_C1 [(0, .ref a), (1, .int (x1))] := (ag_c1 rfl (ag_c1 rfl ag_c0))
  refine ag_iload_n d_Jg_valueOf_0 rfl ?_
  refine ag_ldc d_Jg_valueOf_1 gw_880 ?_
  refine ag_icmp_lt d_Jg_valueOf_3 rfl (fun q => ?_) (fun q => ?_)
  · replace hyp := md_ifp q hyp
    refine ag_iload_n d_Jg_valueOf_18 rfl ?_
    exact ag_dr (ag_d1 rfl ag_d0) (w_Jg_valueOf_19 hC hyp)
  · replace hyp := md_ifn q hyp
    refine gc_aload_n (r := (some (a))) d_Jg_valueOf_6 rfl ?_
    obtain ⟨g6, eg6, hyp⟩ := md_bd hyp
    refine gc_getr (r := (some (a))) d_Jg_valueOf_7 fr_Jg_29 eg6 ?_
    refine ag_iload_n d_Jg_valueOf_10 rfl ?_
    refine ag_ldc d_Jg_valueOf_11 gw_880 ?_
    refine ag_isub d_Jg_valueOf_13 ?_
    obtain ⟨p10, ep10, hyp⟩ := md_bd hyp
    obtain ⟨q10, hyp⟩ := md_ifs hyp
    refine gc_ild (r := (g6)) d_Jg_valueOf_14 ep10 q10 ?_
    refine ag_goto d_Jg_valueOf_15 rfl ?_
    exact ag_dr (ag_d1 rfl ag_d0) (w_Jg_valueOf_19 hC hyp)
theorem w_Jg_valueOf {l : Launch} {G : ag_G} {d N : Nat} {C : Nat × Nat} (hC : ag_cN G = C.1 ∧ ag_cS G = C.2) (hH : 0 ≤ d) {a : Nat} {p1 : Int32} {h : ag_H} {res : (Int32) × ag_H} (hyp : fn_Jg_valueOf N C a p1 h = some res) : ag_Met gc_P l G m_Jg_valueOf d [.ref a, .int (p1)] h (fun v h' => v = some (.int res.1) ∧ h' = res.2) := by
  exact ag_met (by decide) rfl (Nat.le_of_ble_eq_true rfl) (ag_dr (ag_d1 rfl (ag_d1 rfl ag_d0)) (w_Jg_valueOf_0 hC hyp))
def fn_Jg_compare_71 (N : Nat) (C : Nat × Nat) (s0 : Int32) (h : ag_H) : Option ((Int32) × ag_H) := if md_01 (s0) = true then (some ((s0), h)) else none
def fn_Jg_compare_49 (N : Nat) (C : Nat × Nat) (s0 : Int32) (h : ag_H) : Option ((Int32) × ag_H) := if md_01 (s0) = true then (some ((s0), h)) else none
def fn_Jg_compare_60 (N : Nat) (C : Nat × Nat) (s0 : Int32) (h : ag_H) : Option ((Int32) × ag_H) := if md_01 (s0) = true then (some ((s0), h)) else none
def fn_Jg_compare_38 (N : Nat) (C : Nat × Nat) (s0 : Int32) (h : ag_H) : Option ((Int32) × ag_H) := if md_01 (s0) = true then (some ((s0), h)) else none
def fn_Jg_compare_0 (N : Nat) (C : Nat × Nat) (x0 : Int32) (x1 : Int32) (x2 : Int32) (h : ag_H) : Option ((Int32) × ag_H) := if (x0) = (60 : Int32) then (if (x2) ≤ (x1) then (fn_Jg_compare_38 N C (Int32.ofInt 0) h) else (fn_Jg_compare_38 N C (Int32.ofInt 1) h)) else (if (x0) = (61 : Int32) then (if (x1) = (x2) then (fn_Jg_compare_60 N C (Int32.ofInt 1) h) else (fn_Jg_compare_60 N C (Int32.ofInt 0) h)) else (if (x0) = (62 : Int32) then (if (x1) ≤ (x2) then (fn_Jg_compare_49 N C (Int32.ofInt 0) h) else (fn_Jg_compare_49 N C (Int32.ofInt 1) h)) else (if (x1) = (x2) then (fn_Jg_compare_71 N C (Int32.ofInt 0) h) else (fn_Jg_compare_71 N C (Int32.ofInt 1) h))))
def fn_Jg_compare (N : Nat) (C : Nat × Nat) (p0 : Int32) (p1 : Int32) (p2 : Int32) (h : ag_H) : Option ((Int32) × ag_H) := fn_Jg_compare_0 N C p0 p1 p2 h
theorem w_Jg_compare_71 {l : Launch} {G : ag_G} {d N : Nat} {C : Nat × Nat} (hC : ag_cN G = C.1 ∧ ag_cS G = C.2) {s0 : Int32} {h : ag_H} {res : (Int32) × ag_H} (hyp : fn_Jg_compare_71 N C s0 h = some res) : ag_ev gc_P l G m_Jg_compare (d) (ag_ret gc_P G (fun v h' => v = some (.int res.1) ∧ h' = res.2)) 71 [] [.int (s0)] h := by
  unfold fn_Jg_compare_71 at hyp
  have hc : ag_C1 [] := ag_c0
  obtain ⟨q1, hyp⟩ := md_ifs hyp
  cases hyp
  exact ag_iret d_Jg_compare_71 rfl (md_01n q1) ⟨rfl, rfl⟩
theorem w_Jg_compare_49 {l : Launch} {G : ag_G} {d N : Nat} {C : Nat × Nat} (hC : ag_cN G = C.1 ∧ ag_cS G = C.2) {s0 : Int32} {h : ag_H} {res : (Int32) × ag_H} (hyp : fn_Jg_compare_49 N C s0 h = some res) : ag_ev gc_P l G m_Jg_compare (d) (ag_ret gc_P G (fun v h' => v = some (.int res.1) ∧ h' = res.2)) 49 [] [.int (s0)] h := by
  unfold fn_Jg_compare_49 at hyp
  have hc : ag_C1 [] := ag_c0
  obtain ⟨q1, hyp⟩ := md_ifs hyp
  cases hyp
  exact ag_iret d_Jg_compare_49 rfl (md_01n q1) ⟨rfl, rfl⟩
theorem w_Jg_compare_60 {l : Launch} {G : ag_G} {d N : Nat} {C : Nat × Nat} (hC : ag_cN G = C.1 ∧ ag_cS G = C.2) {s0 : Int32} {h : ag_H} {res : (Int32) × ag_H} (hyp : fn_Jg_compare_60 N C s0 h = some res) : ag_ev gc_P l G m_Jg_compare (d) (ag_ret gc_P G (fun v h' => v = some (.int res.1) ∧ h' = res.2)) 60 [] [.int (s0)] h := by
  unfold fn_Jg_compare_60 at hyp
  have hc : ag_C1 [] := ag_c0
  obtain ⟨q1, hyp⟩ := md_ifs hyp
  cases hyp
  exact ag_iret d_Jg_compare_60 rfl (md_01n q1) ⟨rfl, rfl⟩
theorem w_Jg_compare_38 {l : Launch} {G : ag_G} {d N : Nat} {C : Nat × Nat} (hC : ag_cN G = C.1 ∧ ag_cS G = C.2) {s0 : Int32} {h : ag_H} {res : (Int32) × ag_H} (hyp : fn_Jg_compare_38 N C s0 h = some res) : ag_ev gc_P l G m_Jg_compare (d) (ag_ret gc_P G (fun v h' => v = some (.int res.1) ∧ h' = res.2)) 38 [] [.int (s0)] h := by
  unfold fn_Jg_compare_38 at hyp
  have hc : ag_C1 [] := ag_c0
  obtain ⟨q1, hyp⟩ := md_ifs hyp
  cases hyp
  exact ag_iret d_Jg_compare_38 rfl (md_01n q1) ⟨rfl, rfl⟩
theorem w_Jg_compare_0 {l : Launch} {G : ag_G} {d N : Nat} {C : Nat × Nat} (hC : ag_cN G = C.1 ∧ ag_cS G = C.2) {x0 : Int32} {x1 : Int32} {x2 : Int32} {h : ag_H} {res : (Int32) × ag_H} (hyp : fn_Jg_compare_0 N C x0 x1 x2 h = some res) : ag_ev gc_P l G m_Jg_compare (d) (ag_ret gc_P G (fun v h' => v = some (.int res.1) ∧ h' = res.2)) 0 [(0, .int (x0)), (1, .int (x1)), (2, .int (x2))] [] h := by
  unfold fn_Jg_compare_0 at hyp
  have hc : ag_C1 [(0, .int (x0)), (1, .int (x1)), (2, .int (x2))] := (ag_c1 rfl (ag_c1 rfl (ag_c1 rfl ag_c0)))
  refine ag_iload_n d_Jg_compare_0 rfl ?_
  by_cases q0 : (x0) = (60 : Int32)
  · replace hyp := md_ifp q0 hyp
    refine ag_tabIn d_Jg_compare_1 (by rw [q0]; decide) (by rw [q0]; decide) (by rw [q0]; rfl) rfl ?_
    refine ag_iload_n d_Jg_compare_28 rfl ?_
    refine ag_iload_n d_Jg_compare_29 rfl ?_
    refine ag_icmp_ge d_Jg_compare_30 rfl (fun q => ?_) (fun q => ?_)
    · replace hyp := md_ifp q hyp
      refine ag_iconst d_Jg_compare_37 ?_
      exact ag_dr ag_d0 (w_Jg_compare_38 hC hyp)
    · replace hyp := md_ifn q hyp
      refine ag_iconst d_Jg_compare_33 ?_
      refine ag_goto d_Jg_compare_34 rfl ?_
      exact ag_dr ag_d0 (w_Jg_compare_38 hC hyp)
  · replace hyp := md_ifn q0 hyp
    by_cases q1 : (x0) = (61 : Int32)
    · replace hyp := md_ifp q1 hyp
      refine ag_tabIn d_Jg_compare_1 (by rw [q1]; decide) (by rw [q1]; decide) (by rw [q1]; rfl) rfl ?_
      refine ag_iload_n d_Jg_compare_50 rfl ?_
      refine ag_iload_n d_Jg_compare_51 rfl ?_
      refine ag_icmp_ne d_Jg_compare_52 rfl (fun q => ?_) (fun q => ?_)
      · replace hyp := md_ifn q hyp
        refine ag_iconst d_Jg_compare_59 ?_
        exact ag_dr ag_d0 (w_Jg_compare_60 hC hyp)
      · replace hyp := md_ifp q hyp
        refine ag_iconst d_Jg_compare_55 ?_
        refine ag_goto d_Jg_compare_56 rfl ?_
        exact ag_dr ag_d0 (w_Jg_compare_60 hC hyp)
    · replace hyp := md_ifn q1 hyp
      by_cases q2 : (x0) = (62 : Int32)
      · replace hyp := md_ifp q2 hyp
        refine ag_tabIn d_Jg_compare_1 (by rw [q2]; decide) (by rw [q2]; decide) (by rw [q2]; rfl) rfl ?_
        refine ag_iload_n d_Jg_compare_39 rfl ?_
        refine ag_iload_n d_Jg_compare_40 rfl ?_
        refine ag_icmp_le d_Jg_compare_41 rfl (fun q => ?_) (fun q => ?_)
        · replace hyp := md_ifp q hyp
          refine ag_iconst d_Jg_compare_48 ?_
          exact ag_dr ag_d0 (w_Jg_compare_49 hC hyp)
        · replace hyp := md_ifn q hyp
          refine ag_iconst d_Jg_compare_44 ?_
          refine ag_goto d_Jg_compare_45 rfl ?_
          exact ag_dr ag_d0 (w_Jg_compare_49 hC hyp)
      · replace hyp := md_ifn q2 hyp
        refine ag_tabOut d_Jg_compare_1 (by have z0 : (x0).toInt ≠ 60 := ag_ne q0; have z1 : (x0).toInt ≠ 61 := ag_ne q1; have z2 : (x0).toInt ≠ 62 := ag_ne q2; omega) rfl ?_
        refine ag_iload_n d_Jg_compare_61 rfl ?_
        refine ag_iload_n d_Jg_compare_62 rfl ?_
        refine ag_icmp_eq d_Jg_compare_63 rfl (fun q => ?_) (fun q => ?_)
        · replace hyp := md_ifp q hyp
          refine ag_iconst d_Jg_compare_70 ?_
          exact ag_dr ag_d0 (w_Jg_compare_71 hC hyp)
        · replace hyp := md_ifn q hyp
          refine ag_iconst d_Jg_compare_66 ?_
          refine ag_goto d_Jg_compare_67 rfl ?_
          exact ag_dr ag_d0 (w_Jg_compare_71 hC hyp)
theorem w_Jg_compare {l : Launch} {G : ag_G} {d N : Nat} {C : Nat × Nat} (hC : ag_cN G = C.1 ∧ ag_cS G = C.2) (hH : 0 ≤ d) {p0 : Int32} {p1 : Int32} {p2 : Int32} {h : ag_H} {res : (Int32) × ag_H} (hyp : fn_Jg_compare N C p0 p1 p2 h = some res) : ag_Met gc_P l G m_Jg_compare d [.int (p0), .int (p1), .int (p2)] h (fun v h' => v = some (.int res.1) ∧ h' = res.2) := by
  exact ag_met (by decide) rfl (Nat.le_of_ble_eq_true rfl) (ag_dr (ag_d1 rfl (ag_d1 rfl (ag_d1 rfl ag_d0))) (w_Jg_compare_0 hC hyp))
def fn_Jg_calculate_75 (N : Nat) (C : Nat × Nat) (s0 : Int32) (h : ag_H) : Option ((Int32) × ag_H) := some ((s0), h)
def fn_Jg_calculate_68 (N : Nat) (C : Nat × Nat) (h : ag_H) : Option ((Int32) × ag_H) := fn_Jg_calculate_75 N C ((100000 : Int32)) h
def fn_Jg_calculate_52 (N : Nat) (C : Nat × Nat) (x3 : Int64) (h : ag_H) : Option ((Int32) × ag_H) := if (lg_cmp (x3) ((-99999 : Int64))) < (0) then (fn_Jg_calculate_68 N C  h) else (if (lg_cmp (x3) ((99999 : Int64))) ≤ (0) then (fn_Jg_calculate_75 N C ((x3).toInt32) h) else (fn_Jg_calculate_68 N C  h))
def fn_Jg_calculate_18 (N : Nat) (C : Nat × Nat) (s0 : Int32) (h : ag_H) : Option ((Int32) × ag_H) := some ((s0), h)
def fn_Jg_calculate_0 (N : Nat) (C : Nat × Nat) (x0 : Int32) (x1 : Int32) (x2 : Int32) (h : ag_H) : Option ((Int32) × ag_H) := if (x0) = ((Int8.ofInt (47)).toInt32) then (if (x2) = (0) then (fn_Jg_calculate_18 N C ((100000 : Int32)) h) else (if ¬ (x2) = 0 then (fn_Jg_calculate_18 N C ((x1) / (x2)) h) else none)) else (if (x0) = ((Int8.ofInt (43)).toInt32) then (fn_Jg_calculate_52 N C (((x1).toInt64) + ((x2).toInt64)) h) else (if (x0) = ((Int8.ofInt (45)).toInt32) then (fn_Jg_calculate_52 N C (((x1).toInt64) - ((x2).toInt64)) h) else (fn_Jg_calculate_52 N C (((x1).toInt64) * ((x2).toInt64)) h)))
def fn_Jg_calculate (N : Nat) (C : Nat × Nat) (p0 : Int32) (p1 : Int32) (p2 : Int32) (h : ag_H) : Option ((Int32) × ag_H) := fn_Jg_calculate_0 N C p0 p1 p2 h
theorem w_Jg_calculate_75 {l : Launch} {G : ag_G} {d N : Nat} {C : Nat × Nat} (hC : ag_cN G = C.1 ∧ ag_cS G = C.2) {s0 : Int32} {h : ag_H} {res : (Int32) × ag_H} (hyp : fn_Jg_calculate_75 N C s0 h = some res) : ag_ev gc_P l G m_Jg_calculate (d) (ag_ret gc_P G (fun v h' => v = some (.int res.1) ∧ h' = res.2)) 75 [] [.int (s0)] h := by
  unfold fn_Jg_calculate_75 at hyp
  cases hyp
  exact ag_iret d_Jg_calculate_75 rfl rfl ⟨rfl, rfl⟩
theorem w_Jg_calculate_68 {l : Launch} {G : ag_G} {d N : Nat} {C : Nat × Nat} (hC : ag_cN G = C.1 ∧ ag_cS G = C.2) {h : ag_H} {res : (Int32) × ag_H} (hyp : fn_Jg_calculate_68 N C h = some res) : ag_ev gc_P l G m_Jg_calculate (d) (ag_ret gc_P G (fun v h' => v = some (.int res.1) ∧ h' = res.2)) 68 [] [] h := by
  unfold fn_Jg_calculate_68 at hyp
  refine ag_ldc d_Jg_calculate_68 gw_888 ?_
  refine ag_goto d_Jg_calculate_70 rfl ?_
  exact ag_dr ag_d0 (w_Jg_calculate_75 hC hyp)
theorem w_Jg_calculate_52 {l : Launch} {G : ag_G} {d N : Nat} {C : Nat × Nat} (hC : ag_cN G = C.1 ∧ ag_cS G = C.2) {x3 : Int64} {h : ag_H} {res : (Int32) × ag_H} (hyp : fn_Jg_calculate_52 N C x3 h = some res) : ag_ev gc_P l G m_Jg_calculate (d) (ag_ret gc_P G (fun v h' => v = some (.int res.1) ∧ h' = res.2)) 52 [(3, .long (x3))] [] h := by
  unfold fn_Jg_calculate_52 at hyp
  refine ag_lload_n d_Jg_calculate_52 rfl ?_
  refine ag_ldc2 d_Jg_calculate_53 gw_889 ?_
  refine ag_lcmp d_Jg_calculate_56 ?_
  refine ag_if_lt d_Jg_calculate_57 rfl (fun q => ?_) (fun q => ?_)
  · replace hyp := md_ifp q hyp
    exact ag_dr ag_d0 (w_Jg_calculate_68 hC hyp)
  · replace hyp := md_ifn q hyp
    refine ag_lload_n d_Jg_calculate_60 rfl ?_
    refine ag_ldc2 d_Jg_calculate_61 gw_890 ?_
    refine ag_lcmp d_Jg_calculate_64 ?_
    refine ag_if_le d_Jg_calculate_65 rfl (fun q => ?_) (fun q => ?_)
    · replace hyp := md_ifp q hyp
      refine ag_lload_n d_Jg_calculate_73 rfl ?_
      refine ag_l2i d_Jg_calculate_74 ?_
      exact ag_dr ag_d0 (w_Jg_calculate_75 hC hyp)
    · replace hyp := md_ifn q hyp
      exact ag_dr ag_d0 (w_Jg_calculate_68 hC hyp)
theorem w_Jg_calculate_18 {l : Launch} {G : ag_G} {d N : Nat} {C : Nat × Nat} (hC : ag_cN G = C.1 ∧ ag_cS G = C.2) {s0 : Int32} {h : ag_H} {res : (Int32) × ag_H} (hyp : fn_Jg_calculate_18 N C s0 h = some res) : ag_ev gc_P l G m_Jg_calculate (d) (ag_ret gc_P G (fun v h' => v = some (.int res.1) ∧ h' = res.2)) 18 [] [.int (s0)] h := by
  unfold fn_Jg_calculate_18 at hyp
  cases hyp
  exact ag_iret d_Jg_calculate_18 rfl rfl ⟨rfl, rfl⟩
theorem w_Jg_calculate_0 {l : Launch} {G : ag_G} {d N : Nat} {C : Nat × Nat} (hC : ag_cN G = C.1 ∧ ag_cS G = C.2) {x0 : Int32} {x1 : Int32} {x2 : Int32} {h : ag_H} {res : (Int32) × ag_H} (hyp : fn_Jg_calculate_0 N C x0 x1 x2 h = some res) : ag_ev gc_P l G m_Jg_calculate (d) (ag_ret gc_P G (fun v h' => v = some (.int res.1) ∧ h' = res.2)) 0 [(0, .int (x0)), (1, .int (x1)), (2, .int (x2))] [] h := by
  unfold fn_Jg_calculate_0 at hyp
  refine ag_iload_n d_Jg_calculate_0 rfl ?_
  refine ag_bipush d_Jg_calculate_1 ?_
  refine ag_icmp_ne d_Jg_calculate_3 rfl (fun q => ?_) (fun q => ?_)
  · replace hyp := md_ifn q hyp
    refine ag_iload_n d_Jg_calculate_19 rfl ?_
    refine ag_i2l d_Jg_calculate_20 ?_
    refine ag_iload_n d_Jg_calculate_21 rfl ?_
    refine ag_i2l d_Jg_calculate_22 ?_
    refine ag_lmul d_Jg_calculate_23 ?_
    refine ag_lstore_n d_Jg_calculate_24 (by decide) ?_
    refine ag_iload_n d_Jg_calculate_25 rfl ?_
    refine ag_bipush d_Jg_calculate_26 ?_
    refine ag_icmp_ne d_Jg_calculate_28 rfl (fun q => ?_) (fun q => ?_)
    · replace hyp := md_ifn q hyp
      refine ag_iload_n d_Jg_calculate_40 rfl ?_
      refine ag_bipush d_Jg_calculate_41 ?_
      refine ag_icmp_ne d_Jg_calculate_43 rfl (fun q => ?_) (fun q => ?_)
      · replace hyp := md_ifn q hyp
        exact ag_dr (ag_d1 rfl ag_d0) (w_Jg_calculate_52 hC hyp)
      · replace hyp := md_ifp q hyp
        refine ag_iload_n d_Jg_calculate_46 rfl ?_
        refine ag_i2l d_Jg_calculate_47 ?_
        refine ag_iload_n d_Jg_calculate_48 rfl ?_
        refine ag_i2l d_Jg_calculate_49 ?_
        refine ag_lsub d_Jg_calculate_50 ?_
        refine ag_lstore_n d_Jg_calculate_51 (by decide) ?_
        exact ag_dr (ag_d1 rfl ag_d0) (w_Jg_calculate_52 hC hyp)
    · replace hyp := md_ifp q hyp
      refine ag_iload_n d_Jg_calculate_31 rfl ?_
      refine ag_i2l d_Jg_calculate_32 ?_
      refine ag_iload_n d_Jg_calculate_33 rfl ?_
      refine ag_i2l d_Jg_calculate_34 ?_
      refine ag_ladd d_Jg_calculate_35 ?_
      refine ag_lstore_n d_Jg_calculate_36 (by decide) ?_
      refine ag_goto d_Jg_calculate_37 rfl ?_
      exact ag_dr (ag_d1 rfl ag_d0) (w_Jg_calculate_52 hC hyp)
  · replace hyp := md_ifp q hyp
    refine ag_iload_n d_Jg_calculate_6 rfl ?_
    refine ag_if_ne d_Jg_calculate_7 rfl (fun q => ?_) (fun q => ?_)
    · replace hyp := md_ifn q hyp
      refine ag_iload_n d_Jg_calculate_15 rfl ?_
      refine ag_iload_n d_Jg_calculate_16 rfl ?_
      obtain ⟨q33, hyp⟩ := md_ifs hyp
      refine ag_idiv d_Jg_calculate_17 q33 ?_
      exact ag_dr ag_d0 (w_Jg_calculate_18 hC hyp)
    · replace hyp := md_ifp q hyp
      refine ag_ldc d_Jg_calculate_10 gw_888 ?_
      refine ag_goto d_Jg_calculate_12 rfl ?_
      exact ag_dr ag_d0 (w_Jg_calculate_18 hC hyp)
theorem w_Jg_calculate {l : Launch} {G : ag_G} {d N : Nat} {C : Nat × Nat} (hC : ag_cN G = C.1 ∧ ag_cS G = C.2) (hH : 0 ≤ d) {p0 : Int32} {p1 : Int32} {p2 : Int32} {h : ag_H} {res : (Int32) × ag_H} (hyp : fn_Jg_calculate N C p0 p1 p2 h = some res) : ag_Met gc_P l G m_Jg_calculate d [.int (p0), .int (p1), .int (p2)] h (fun v h' => v = some (.int res.1) ∧ h' = res.2) := by
  exact ag_met (by decide) rfl (Nat.le_of_ble_eq_true rfl) (ag_dr (ag_d1 rfl (ag_d1 rfl (ag_d1 rfl ag_d0))) (w_Jg_calculate_0 hC hyp))
def fn_Jg_work_133 (N : Nat) (C : Nat × Nat) (a : Nat) (k4 : Option Nat → Int32 → Int32 → ag_H → Option ((Int32) × ag_H)) (x1 : Option Nat) (x2 : Int32) (x3 : Int32) (h : ag_H) : Option ((Int32) × ag_H) := k4 (x1) (x2) ((x3) + Int32.ofInt (1)) h
def fn_Jg_work_44 (N : Nat) (C : Nat × Nat) (a : Nat) (k4 : Option Nat → Int32 → Int32 → ag_H → Option ((Int32) × ag_H)) (x1 : Option Nat) (x2 : Int32) (x3 : Int32) (x4 : Int32) (h : ag_H) : Option ((Int32) × ag_H) := if (0) ≤ (x4) then (fn_Jg_work_133 N C a k4 (x1) (x2) (x3) h) else (if (x2) < (Int32.ofInt 2) then (fn_Jg_work_133 N C a k4 (x1) (x2) (x3) h) else ((ag_gr h (some (a)) 3 7).bind fun g7 => (ag_ai h 0 (g7)).bind fun p11 => if md_in ((x2) - (Int32.ofInt 2)) p11.1 = true then ((ag_gr h (some (a)) 3 7).bind fun g14 => (ag_ai h 0 (g14)).bind fun p18 => if md_in ((x2) - (Int32.ofInt 1)) p18.1 = true then ((fn_GC_isComparison N C (-(x4)) h).bind fun r23 => if (r23.1) = (0) then ((fn_Jg_calculate N C (-(x4)) (p11.2 ((x2) - (Int32.ofInt 2)).toNatClampNeg) (p18.2 ((x2) - (Int32.ofInt 1)).toNatClampNeg) r23.2).bind fun r29 => if (r29.1) = ((100000 : Int32)) then (some ((Int32.ofInt (-1)), r29.2)) else ((ag_gr r29.2 (some (a)) 3 7).bind fun g35 => (ag_ai r29.2 0 (g35)).bind fun p38 => if md_in ((x2) + Int32.ofInt (-2)) p38.1 = true then (fn_Jg_work_133 N C a k4 (x1) (((x2) + Int32.ofInt (-2)) + Int32.ofInt (1)) (x3) (ag_up r29.2 ((g35).getD 0) (.inl (0, p38.1, .inl (upd p38.2 ((x2) + Int32.ofInt (-2)).toNatClampNeg (r29.1)))))) else none)) else ((fn_Jg_compare N C (-(x4)) (p11.2 ((x2) - (Int32.ofInt 2)).toNatClampNeg) (p18.2 ((x2) - (Int32.ofInt 1)).toNatClampNeg) r23.2).bind fun r46 => if (r46.1) = (0) then (some ((Int32.ofInt 0), r46.2)) else (fn_Jg_work_133 N C a k4 (x1) ((x2) + Int32.ofInt (-2)) (x3) r46.2))) else none) else none))
def fn_Jg_work_4 (N : Nat) (C : Nat × Nat) (a : Nat) : Nat → Option Nat → Int32 → Int32 → ag_H → Option ((Int32) × ag_H)
  | 0, _, _, _, _ => none
  | n + 1, x1, x2, x3, h => (ag_le h (x1)).bind fun g3 => if (g3) ≤ (x3) then (some ((Int32.ofInt 1), h)) else ((ag_ai h 0 (x1)).bind fun p9 => if md_in (x3) p9.1 = true then (if (p9.2 (x3).toNatClampNeg) < (0) then (fn_Jg_work_44 N C a (fn_Jg_work_4 N C a n) (x1) (x2) (x3) (p9.2 (x3).toNatClampNeg) h) else (if ((Int8.ofInt (40)).toInt32) ≤ (x2) then (fn_Jg_work_44 N C a (fn_Jg_work_4 N C a n) (x1) (x2) (x3) (p9.2 (x3).toNatClampNeg) h) else ((ag_gr h (some (a)) 3 7).bind fun g17 => (ag_rc h (some (a)) 3).bind fun a21 => (fn_Jg_valueOf N C a21 (p9.2 (x3).toNatClampNeg) h).bind fun r21 => (ag_ai r21.2 0 (g17)).bind fun p22 => if md_in (x2) p22.1 = true then (fn_Jg_work_133 N C a (fn_Jg_work_4 N C a n) (x1) ((x2) + Int32.ofInt (1)) (x3) (ag_up r21.2 ((g17).getD 0) (.inl (0, p22.1, .inl (upd p22.2 (x2).toNatClampNeg (r21.1)))))) else none))) else none)
theorem fe_Jg_work_4 (N : Nat) (C : Nat × Nat) (a : Nat) (n : Nat) (x1 : Option Nat) (x2 : Int32) (x3 : Int32) (h : ag_H) : fn_Jg_work_4 N C a (n + 1) x1 x2 x3 h = ((ag_le h (x1)).bind fun g3 => if (g3) ≤ (x3) then (some ((Int32.ofInt 1), h)) else ((ag_ai h 0 (x1)).bind fun p9 => if md_in (x3) p9.1 = true then (if (p9.2 (x3).toNatClampNeg) < (0) then (fn_Jg_work_44 N C a (fn_Jg_work_4 N C a n) (x1) (x2) (x3) (p9.2 (x3).toNatClampNeg) h) else (if ((Int8.ofInt (40)).toInt32) ≤ (x2) then (fn_Jg_work_44 N C a (fn_Jg_work_4 N C a n) (x1) (x2) (x3) (p9.2 (x3).toNatClampNeg) h) else ((ag_gr h (some (a)) 3 7).bind fun g17 => (ag_rc h (some (a)) 3).bind fun a21 => (fn_Jg_valueOf N C a21 (p9.2 (x3).toNatClampNeg) h).bind fun r21 => (ag_ai r21.2 0 (g17)).bind fun p22 => if md_in (x2) p22.1 = true then (fn_Jg_work_133 N C a (fn_Jg_work_4 N C a n) (x1) ((x2) + Int32.ofInt (1)) (x3) (ag_up r21.2 ((g17).getD 0) (.inl (0, p22.1, .inl (upd p22.2 (x2).toNatClampNeg (r21.1)))))) else none))) else none)) := rfl
def fn_Jg_work_0 (N : Nat) (C : Nat × Nat) (a : Nat) (x1 : Option Nat) (h : ag_H) : Option ((Int32) × ag_H) := fn_Jg_work_4 N C a N (x1) (Int32.ofInt 0) (Int32.ofInt 0) h
def fn_Jg_work (N : Nat) (C : Nat × Nat) (a : Nat) (p1 : Option Nat) (h : ag_H) : Option ((Int32) × ag_H) := fn_Jg_work_0 N C a p1 h
theorem w_Jg_work_133 {l : Launch} {G : ag_G} {d N : Nat} {C : Nat × Nat} {a : Nat} (hC : ag_cN G = C.1 ∧ ag_cS G = C.2) (hH : 0 ≤ d) {k4 : Option Nat → Int32 → Int32 → ag_H → Option ((Int32) × ag_H)} (hk4 : ∀ (res : (Int32) × ag_H) (y1 : Option Nat) (y2 : Int32) (y3 : Int32) (hh : ag_H), k4 y1 y2 y3 hh = some res → ag_ev gc_P l G m_Jg_work (d + 1) (ag_ret gc_P G (fun v h' => v = some (.int res.1) ∧ h' = res.2)) 4 [(0, .ref a), (1, ag_rf (y1)), (2, .int (y2)), (3, .int (y3))] [] hh) {x1 : Option Nat} {x2 : Int32} {x3 : Int32} {h : ag_H} {res : (Int32) × ag_H} (hyp : fn_Jg_work_133 N C a k4 x1 x2 x3 h = some res) : ag_ev gc_P l G m_Jg_work (d + 1) (ag_ret gc_P G (fun v h' => v = some (.int res.1) ∧ h' = res.2)) 133 [(0, .ref a), (1, ag_rf (x1)), (2, .int (x2)), (3, .int (x3))] [] h := by
  unfold fn_Jg_work_133 at hyp
  have hc : ag_C1 [(0, .ref a), (1, ag_rf (x1)), (2, .int (x2)), (3, .int (x3))] := (ag_c1 rfl (ag_c1 (ag_cat_rf _) (ag_c1 rfl (ag_c1 rfl ag_c0))))
  refine gc_iinc d_Jg_work_133 rfl (by decide) hc ?_
  replace hc := ag_cs (i := 3) (v := .int ((x3) + Int32.ofInt (1))) hc rfl
  refine ag_goto d_Jg_work_136 rfl ?_
  exact ag_dr (ag_d1 rfl (ag_d1 rfl (ag_d1 rfl (ag_d1 rfl ag_d0)))) (hk4 _ _ _ _ _ hyp)
theorem w_Jg_work_44 {l : Launch} {G : ag_G} {d N : Nat} {C : Nat × Nat} {a : Nat} (hC : ag_cN G = C.1 ∧ ag_cS G = C.2) (hH : 0 ≤ d) {k4 : Option Nat → Int32 → Int32 → ag_H → Option ((Int32) × ag_H)} (hk4 : ∀ (res : (Int32) × ag_H) (y1 : Option Nat) (y2 : Int32) (y3 : Int32) (hh : ag_H), k4 y1 y2 y3 hh = some res → ag_ev gc_P l G m_Jg_work (d + 1) (ag_ret gc_P G (fun v h' => v = some (.int res.1) ∧ h' = res.2)) 4 [(0, .ref a), (1, ag_rf (y1)), (2, .int (y2)), (3, .int (y3))] [] hh) {x1 : Option Nat} {x2 : Int32} {x3 : Int32} {x4 : Int32} {h : ag_H} {res : (Int32) × ag_H} (hyp : fn_Jg_work_44 N C a k4 x1 x2 x3 x4 h = some res) : ag_ev gc_P l G m_Jg_work (d + 1) (ag_ret gc_P G (fun v h' => v = some (.int res.1) ∧ h' = res.2)) 44 [(0, .ref a), (1, ag_rf (x1)), (2, .int (x2)), (3, .int (x3)), (4, .int (x4))] [] h := by
  unfold fn_Jg_work_44 at hyp
  have hc : ag_C1 [(0, .ref a), (1, ag_rf (x1)), (2, .int (x2)), (3, .int (x3)), (4, .int (x4))] := (ag_c1 rfl (ag_c1 (ag_cat_rf _) (ag_c1 rfl (ag_c1 rfl (ag_c1 rfl ag_c0)))))
  refine ag_iload d_Jg_work_44 rfl ?_
  refine ag_if_ge d_Jg_work_46 rfl (fun q => ?_) (fun q => ?_)
  · replace hyp := md_ifp q hyp
    exact ag_dr (ag_d1 rfl (ag_d1 rfl (ag_d1 rfl (ag_d1 rfl ag_d0)))) (w_Jg_work_133 hC hH hk4 hyp)
  · replace hyp := md_ifn q hyp
    refine ag_iload_n d_Jg_work_49 rfl ?_
    refine ag_iconst d_Jg_work_50 ?_
    refine ag_icmp_lt d_Jg_work_51 rfl (fun q => ?_) (fun q => ?_)
    · replace hyp := md_ifp q hyp
      exact ag_dr (ag_d1 rfl (ag_d1 rfl (ag_d1 rfl (ag_d1 rfl ag_d0)))) (w_Jg_work_133 hC hH hk4 hyp)
    · replace hyp := md_ifn q hyp
      refine gc_aload_n (r := (some (a))) d_Jg_work_54 rfl ?_
      obtain ⟨g7, eg7, hyp⟩ := md_bd hyp
      refine gc_getr (r := (some (a))) d_Jg_work_55 fr_Jg_33 eg7 ?_
      refine ag_iload_n d_Jg_work_58 rfl ?_
      refine ag_iconst d_Jg_work_59 ?_
      refine ag_isub d_Jg_work_60 ?_
      obtain ⟨p11, ep11, hyp⟩ := md_bd hyp
      obtain ⟨q11, hyp⟩ := md_ifs hyp
      refine gc_ild (r := (g7)) d_Jg_work_61 ep11 q11 ?_
      refine gc_istore d_Jg_work_62 (by decide) hc ?_
      replace hc := ag_cs (i := 5) (v := .int (p11.2 ((x2) - (Int32.ofInt 2)).toNatClampNeg)) hc rfl
      refine gc_aload_n (r := (some (a))) d_Jg_work_64 rfl ?_
      obtain ⟨g14, eg14, hyp⟩ := md_bd hyp
      refine gc_getr (r := (some (a))) d_Jg_work_65 fr_Jg_33 eg14 ?_
      refine ag_iload_n d_Jg_work_68 rfl ?_
      refine ag_iconst d_Jg_work_69 ?_
      refine ag_isub d_Jg_work_70 ?_
      obtain ⟨p18, ep18, hyp⟩ := md_bd hyp
      obtain ⟨q18, hyp⟩ := md_ifs hyp
      refine gc_ild (r := (g14)) d_Jg_work_71 ep18 q18 ?_
      refine gc_istore d_Jg_work_72 (by decide) hc ?_
      replace hc := ag_cs (i := 6) (v := .int (p18.2 ((x2) - (Int32.ofInt 1)).toNatClampNeg)) hc rfl
      refine gc_iinc d_Jg_work_74 rfl (by decide) hc ?_
      replace hc := ag_cs (i := 2) (v := .int ((x2) + Int32.ofInt (-2))) hc rfl
      refine ag_iload d_Jg_work_77 rfl ?_
      refine ag_ineg d_Jg_work_79 ?_
      obtain ⟨r23, er23, hyp⟩ := md_bd hyp
      refine ag_calls (as := [.int (-(x4))]) d_Jg_work_80 ml_Jg_173 gw_453 (Nat.le_of_ble_eq_true rfl) (w_GC_isComparison hC (d := d) (by omega) er23) (fun v23 h23 q23 => ?_)
      obtain ⟨rfl, rfl⟩ := q23
      refine ag_if_eq d_Jg_work_83 rfl (fun q => ?_) (fun q => ?_)
      · replace hyp := md_ifp q hyp
        refine ag_iload d_Jg_work_101 rfl ?_
        refine ag_ineg d_Jg_work_103 ?_
        refine ag_iload d_Jg_work_104 rfl ?_
        refine ag_iload d_Jg_work_106 rfl ?_
        obtain ⟨r29, er29, hyp⟩ := md_bd hyp
        refine ag_calls (as := [.int (-(x4)), .int (p11.2 ((x2) - (Int32.ofInt 2)).toNatClampNeg), .int (p18.2 ((x2) - (Int32.ofInt 1)).toNatClampNeg)]) d_Jg_work_108 ml_Jg_181 gw_886 (Nat.le_of_ble_eq_true rfl) (w_Jg_calculate hC (d := d) (by omega) er29) (fun v29 h29 q29 => ?_)
        obtain ⟨rfl, rfl⟩ := q29
        refine gc_istore d_Jg_work_111 (by decide) hc ?_
        replace hc := ag_cs (i := 7) (v := .int (r29.1)) hc rfl
        refine ag_iload d_Jg_work_113 rfl ?_
        refine ag_ldc d_Jg_work_115 gw_888 ?_
        refine ag_icmp_ne d_Jg_work_117 rfl (fun q => ?_) (fun q => ?_)
        · replace hyp := md_ifn q hyp
          refine gc_aload_n (r := (some (a))) d_Jg_work_122 rfl ?_
          obtain ⟨g35, eg35, hyp⟩ := md_bd hyp
          refine gc_getr (r := (some (a))) d_Jg_work_123 fr_Jg_33 eg35 ?_
          refine ag_iload_n d_Jg_work_126 rfl ?_
          refine ag_iload d_Jg_work_127 rfl ?_
          obtain ⟨p38, ep38, hyp⟩ := md_bd hyp
          obtain ⟨q38, hyp⟩ := md_ifs hyp
          refine gc_ist (r := (g35)) d_Jg_work_129 ep38 q38 ?_
          refine gc_iinc d_Jg_work_130 rfl (by decide) hc ?_
          replace hc := ag_cs (i := 2) (v := .int (((x2) + Int32.ofInt (-2)) + Int32.ofInt (1))) hc rfl
          exact ag_dr (ag_d1 rfl (ag_d1 rfl (ag_d1 rfl (ag_d1 rfl ag_d0)))) (w_Jg_work_133 hC hH hk4 hyp)
        · replace hyp := md_ifp q hyp
          refine ag_iconst d_Jg_work_120 ?_
          cases hyp
          exact ag_iret d_Jg_work_121 rfl rfl ⟨rfl, rfl⟩
      · replace hyp := md_ifn q hyp
        refine ag_iload d_Jg_work_86 rfl ?_
        refine ag_ineg d_Jg_work_88 ?_
        refine ag_iload d_Jg_work_89 rfl ?_
        refine ag_iload d_Jg_work_91 rfl ?_
        obtain ⟨r46, er46, hyp⟩ := md_bd hyp
        refine ag_calls (as := [.int (-(x4)), .int (p11.2 ((x2) - (Int32.ofInt 2)).toNatClampNeg), .int (p18.2 ((x2) - (Int32.ofInt 1)).toNatClampNeg)]) d_Jg_work_93 ml_Jg_177 gw_883 (Nat.le_of_ble_eq_true rfl) (w_Jg_compare hC (d := d) (by omega) er46) (fun v46 h46 q46 => ?_)
        obtain ⟨rfl, rfl⟩ := q46
        refine ag_if_ne d_Jg_work_96 rfl (fun q => ?_) (fun q => ?_)
        · replace hyp := md_ifn q hyp
          exact ag_dr (ag_d1 rfl (ag_d1 rfl (ag_d1 rfl (ag_d1 rfl ag_d0)))) (w_Jg_work_133 hC hH hk4 hyp)
        · replace hyp := md_ifp q hyp
          refine ag_iconst d_Jg_work_99 ?_
          cases hyp
          exact ag_iret d_Jg_work_100 rfl rfl ⟨rfl, rfl⟩
theorem w_Jg_work_4 {l : Launch} {G : ag_G} {d N : Nat} {C : Nat × Nat} {a : Nat} (hC : ag_cN G = C.1 ∧ ag_cS G = C.2) (hH : 0 ≤ d) : ∀ (n : Nat) (res : (Int32) × ag_H) (x1 : Option Nat) (x2 : Int32) (x3 : Int32) (h : ag_H) , fn_Jg_work_4 N C a n x1 x2 x3 h = some res → ag_ev gc_P l G m_Jg_work (d + 1) (ag_ret gc_P G (fun v h' => v = some (.int res.1) ∧ h' = res.2)) 4 [(0, .ref a), (1, ag_rf (x1)), (2, .int (x2)), (3, .int (x3))] [] h := by
  intro n
  induction n with
  | zero =>
    intro res x1 x2 x3 h hyp
    cases hyp
  | succ n ih =>
    intro res x1 x2 x3 h hyp
    rw [fe_Jg_work_4] at hyp
    have hc : ag_C1 [(0, .ref a), (1, ag_rf (x1)), (2, .int (x2)), (3, .int (x3))] := (ag_c1 rfl (ag_c1 (ag_cat_rf _) (ag_c1 rfl (ag_c1 rfl ag_c0))))
    refine ag_iload_n d_Jg_work_4 rfl ?_
    refine gc_aload_n (r := (x1)) d_Jg_work_5 rfl ?_
    obtain ⟨g3, eg3, hyp⟩ := md_bd hyp
    refine gc_alen (r := (x1)) d_Jg_work_6 eg3 ?_
    refine ag_icmp_ge d_Jg_work_7 rfl (fun q => ?_) (fun q => ?_)
    · replace hyp := md_ifp q hyp
      refine ag_iconst d_Jg_work_139 ?_
      cases hyp
      exact ag_iret d_Jg_work_140 rfl rfl ⟨rfl, rfl⟩
    · replace hyp := md_ifn q hyp
      refine gc_aload_n (r := (x1)) d_Jg_work_10 rfl ?_
      refine ag_iload_n d_Jg_work_11 rfl ?_
      obtain ⟨p9, ep9, hyp⟩ := md_bd hyp
      obtain ⟨q9, hyp⟩ := md_ifs hyp
      refine gc_ild (r := (x1)) d_Jg_work_12 ep9 q9 ?_
      refine gc_istore d_Jg_work_13 (by decide) hc ?_
      replace hc := ag_cs (i := 4) (v := .int (p9.2 (x3).toNatClampNeg)) hc rfl
      refine ag_iload d_Jg_work_15 rfl ?_
      refine ag_if_lt d_Jg_work_17 rfl (fun q => ?_) (fun q => ?_)
      · replace hyp := md_ifp q hyp
        exact ag_dr (ag_d1 rfl (ag_d1 rfl (ag_d1 rfl (ag_d1 rfl (ag_d1 rfl ag_d0))))) (w_Jg_work_44 hC hH ih hyp)
      · replace hyp := md_ifn q hyp
        refine ag_iload_n d_Jg_work_20 rfl ?_
        refine ag_bipush d_Jg_work_21 ?_
        refine ag_icmp_ge d_Jg_work_23 rfl (fun q => ?_) (fun q => ?_)
        · replace hyp := md_ifp q hyp
          exact ag_dr (ag_d1 rfl (ag_d1 rfl (ag_d1 rfl (ag_d1 rfl (ag_d1 rfl ag_d0))))) (w_Jg_work_44 hC hH ih hyp)
        · replace hyp := md_ifn q hyp
          refine gc_aload_n (r := (some (a))) d_Jg_work_26 rfl ?_
          obtain ⟨g17, eg17, hyp⟩ := md_bd hyp
          refine gc_getr (r := (some (a))) d_Jg_work_27 fr_Jg_33 eg17 ?_
          refine ag_iload_n d_Jg_work_30 rfl ?_
          refine gc_aload_n (r := (some (a))) d_Jg_work_31 rfl ?_
          refine ag_iload d_Jg_work_32 rfl ?_
          obtain ⟨a21, ea21, hyp⟩ := md_bd hyp
          obtain ⟨r21, er21, hyp⟩ := md_bd hyp
          refine gc_callv (r := (some (a))) (as := [.int (p9.2 (x3).toNatClampNeg)]) d_Jg_work_34 ml_Jg_157 gw_878 rfl sl_Jg_valueOf ea21 (ag_w9 (ag_v1 rfl (ag_v1 (ag_cat_rf _) ag_v0)) (Nat.le_of_ble_eq_true rfl)) (w_Jg_valueOf hC (d := d) (by omega) er21) (fun v21 h21 q21 => ?_)
          obtain ⟨rfl, rfl⟩ := q21
          obtain ⟨p22, ep22, hyp⟩ := md_bd hyp
          obtain ⟨q22, hyp⟩ := md_ifs hyp
          refine gc_ist (r := (g17)) d_Jg_work_37 ep22 q22 ?_
          refine gc_iinc d_Jg_work_38 rfl (by decide) hc ?_
          replace hc := ag_cs (i := 2) (v := .int ((x2) + Int32.ofInt (1))) hc rfl
          refine ag_goto d_Jg_work_41 rfl ?_
          exact ag_dr (ag_d1 rfl (ag_d1 rfl (ag_d1 rfl (ag_d1 rfl ag_d0)))) (w_Jg_work_133 hC hH ih hyp)
theorem w_Jg_work_0 {l : Launch} {G : ag_G} {d N : Nat} {C : Nat × Nat} {a : Nat} (hC : ag_cN G = C.1 ∧ ag_cS G = C.2) (hH : 0 ≤ d) {x1 : Option Nat} {h : ag_H} {res : (Int32) × ag_H} (hyp : fn_Jg_work_0 N C a x1 h = some res) : ag_ev gc_P l G m_Jg_work (d + 1) (ag_ret gc_P G (fun v h' => v = some (.int res.1) ∧ h' = res.2)) 0 [(0, .ref a), (1, ag_rf (x1))] [] h := by
  unfold fn_Jg_work_0 at hyp
  have hc : ag_C1 [(0, .ref a), (1, ag_rf (x1))] := (ag_c1 rfl (ag_c1 (ag_cat_rf _) ag_c0))
  refine ag_iconst d_Jg_work_0 ?_
  refine gc_istore_n d_Jg_work_1 (by decide) hc ?_
  replace hc := ag_cs (i := 2) (v := .int (Int32.ofInt 0)) hc rfl
  refine ag_iconst d_Jg_work_2 ?_
  refine gc_istore_n d_Jg_work_3 (by decide) hc ?_
  replace hc := ag_cs (i := 3) (v := .int (Int32.ofInt 0)) hc rfl
  exact ag_dr (ag_d1 rfl (ag_d1 rfl (ag_d1 rfl (ag_d1 rfl ag_d0)))) (w_Jg_work_4 hC hH N _ _ _ _ _ hyp)
theorem w_Jg_work {l : Launch} {G : ag_G} {d N : Nat} {C : Nat × Nat} (hC : ag_cN G = C.1 ∧ ag_cS G = C.2) (hH : 0 + 1 ≤ d) {a : Nat} {p1 : Option Nat} {h : ag_H} {res : (Int32) × ag_H} (hyp : fn_Jg_work N C a p1 h = some res) : ag_Met gc_P l G m_Jg_work d [.ref a, ag_rf (p1)] h (fun v h' => v = some (.int res.1) ∧ h' = res.2) := by
  obtain ⟨d, rfl, hG⟩ := md_dd hH
  exact ag_met0 (by decide) rfl (ag_v1 rfl (ag_v1 (ag_cat_rf _) ag_v0)) (Nat.le_of_ble_eq_true rfl) (ag_dr (ag_d1 rfl (ag_d1 rfl ag_d0)) (w_Jg_work_0 hC hG hyp))
def fn_Jg_finish_83 (N : Nat) (C : Nat × Nat) (a : Nat) (h : ag_H) : Option ((Int32) × ag_H) := some (0, h)
def fn_Jg_finish_34 (N : Nat) (C : Nat × Nat) (a : Nat) (s0 : Option Nat) (s1 : Int32) (s2 : Int32) (h : ag_H) : Option ((Int32) × ag_H) := (ag_pf h (ag_rf (s0)) 3 13 .boolean (.int ((s1) ||| (s2)))).bind fun h2 => some (0, h2)
def fn_Jg_finish_0 (N : Nat) (C : Nat × Nat) (a : Nat) (x1 : Option Nat) (x2 : Int32) (h : ag_H) : Option ((Int32) × ag_H) := (ag_gr h (x1) 7 4).bind fun g3 => (ag_rc h (some (a)) 3).bind fun a4 => (fn_Jg_work N C a4 (g3) h).bind fun r4 => if (r4.1) = (Int32.ofInt 1) then ((ag_pf r4.2 (ag_rf (some (a))) 3 11 .boolean (.int (Int32.ofInt 1))).bind fun h11 => (ag_gr h11 (x1) 7 2).bind fun g13 => if ((g13)) = none then (fn_Jg_finish_83 N C a  h11) else ((ag_gr h11 (some (a)) 3 0).bind fun g18 => (ag_gi h11 ((g13)) 6 2).bind fun g22 => (ag_rc h11 (some (a)) 3).bind fun a23 => (fn_Jg_valueOf N C a23 (g22) h11).bind fun r23 => (ag_gi r23.2 ((g13)) 6 3).bind fun g26 => (ag_rc r23.2 (some (a)) 3).bind fun a27 => (fn_Jg_valueOf N C a27 (g26) r23.2).bind fun r27 => (ag_rc r27.2 (g18) 4).bind fun a29 => (fn_Fa_offer N C a29 ((g13)) (r23.1) (r27.1) (x2) r27.2).bind fun r29 => fn_Jg_finish_83 N C a  r29.2)) else ((ag_pf r4.2 (ag_rf (some (a))) 3 12 .boolean (.int (Int32.ofInt 1))).bind fun h32 => (ag_gi h32 (some (a)) 3 13).bind fun g35 => if (r4.1) = (Int32.ofInt (-1)) then (fn_Jg_finish_34 N C a (some (a)) (g35) (Int32.ofInt 1) h32) else (fn_Jg_finish_34 N C a (some (a)) (g35) (Int32.ofInt 0) h32))
def fn_Jg_finish (N : Nat) (C : Nat × Nat) (a : Nat) (p1 : Option Nat) (p2 : Int32) (h : ag_H) : Option ((Int32) × ag_H) := fn_Jg_finish_0 N C a p1 p2 h
theorem w_Jg_finish_83 {l : Launch} {G : ag_G} {d N : Nat} {C : Nat × Nat} {a : Nat} (hC : ag_cN G = C.1 ∧ ag_cS G = C.2) (hH : 1 ≤ d) {h : ag_H} {res : (Int32) × ag_H} (hyp : fn_Jg_finish_83 N C a h = some res) : ag_ev gc_P l G m_Jg_finish (d + 1) (ag_ret gc_P G (fun v h' => v = none ∧ h' = res.2)) 83 [(0, .ref a)] [] h := by
  unfold fn_Jg_finish_83 at hyp
  have hc : ag_C1 [(0, .ref a)] := (ag_c1 rfl ag_c0)
  cases hyp
  exact ag_vret d_Jg_finish_83 rfl ⟨rfl, rfl⟩
theorem w_Jg_finish_34 {l : Launch} {G : ag_G} {d N : Nat} {C : Nat × Nat} {a : Nat} (hC : ag_cN G = C.1 ∧ ag_cS G = C.2) (hH : 1 ≤ d) {s0 : Option Nat} {s1 : Int32} {s2 : Int32} {h : ag_H} {res : (Int32) × ag_H} (hyp : fn_Jg_finish_34 N C a s0 s1 s2 h = some res) : ag_ev gc_P l G m_Jg_finish (d + 1) (ag_ret gc_P G (fun v h' => v = none ∧ h' = res.2)) 34 [(0, .ref a)] [.int (s2), .int (s1), ag_rf (s0)] h := by
  unfold fn_Jg_finish_34 at hyp
  have hc : ag_C1 [(0, .ref a)] := (ag_c1 rfl ag_c0)
  refine ag_ior d_Jg_finish_34 ?_
  obtain ⟨h2, eh2, hyp⟩ := md_bd hyp
  refine gc_putf (r := (s0)) d_Jg_finish_35 fl_Jg_117 (fun q => by cases q) eh2 ?_
  cases hyp
  exact ag_vret d_Jg_finish_38 rfl ⟨rfl, rfl⟩
theorem w_Jg_finish_0 {l : Launch} {G : ag_G} {d N : Nat} {C : Nat × Nat} {a : Nat} (hC : ag_cN G = C.1 ∧ ag_cS G = C.2) (hH : 1 ≤ d) {x1 : Option Nat} {x2 : Int32} {h : ag_H} {res : (Int32) × ag_H} (hyp : fn_Jg_finish_0 N C a x1 x2 h = some res) : ag_ev gc_P l G m_Jg_finish (d + 1) (ag_ret gc_P G (fun v h' => v = none ∧ h' = res.2)) 0 [(0, .ref a), (1, ag_rf (x1)), (2, .int (x2))] [] h := by
  unfold fn_Jg_finish_0 at hyp
  have hc : ag_C1 [(0, .ref a), (1, ag_rf (x1)), (2, .int (x2))] := (ag_c1 rfl (ag_c1 (ag_cat_rf _) (ag_c1 rfl ag_c0)))
  refine gc_aload_n (r := (some (a))) d_Jg_finish_0 rfl ?_
  refine gc_aload_n (r := (x1)) d_Jg_finish_1 rfl ?_
  obtain ⟨g3, eg3, hyp⟩ := md_bd hyp
  refine gc_getr (r := (x1)) d_Jg_finish_2 fr_Jg_150 eg3 ?_
  obtain ⟨a4, ea4, hyp⟩ := md_bd hyp
  obtain ⟨r4, er4, hyp⟩ := md_bd hyp
  refine gc_callv (r := (some (a))) (as := [ag_rf (g3)]) d_Jg_finish_5 ml_Jg_153 gw_874 rfl sl_Jg_work ea4 (Nat.le_of_ble_eq_true rfl) (w_Jg_work hC (d := d) (by omega) er4) (fun v4 h4 q4 => ?_)
  obtain ⟨rfl, rfl⟩ := q4
  refine gc_istore_n d_Jg_finish_8 (by decide) hc ?_
  replace hc := ag_cs (i := 3) (v := .int (r4.1)) hc rfl
  refine ag_iload_n d_Jg_finish_9 rfl ?_
  refine ag_iconst d_Jg_finish_10 ?_
  refine ag_icmp_eq d_Jg_finish_11 rfl (fun q => ?_) (fun q => ?_)
  · replace hyp := md_ifp q hyp
    refine gc_aload_n (r := (some (a))) d_Jg_finish_39 rfl ?_
    refine ag_iconst d_Jg_finish_40 ?_
    obtain ⟨h11, eh11, hyp⟩ := md_bd hyp
    refine gc_putf (r := (some (a))) d_Jg_finish_41 fl_Jg_120 (fun q => by cases q) eh11 ?_
    refine gc_aload_n (r := (x1)) d_Jg_finish_44 rfl ?_
    obtain ⟨g13, eg13, hyp⟩ := md_bd hyp
    refine gc_getr (r := (x1)) d_Jg_finish_45 fr_Jg_97 eg13 ?_
    refine gc_astore0 (r := (g13)) d_Jg_finish_48 (by decide) hc ?_
    replace hc := ag_cs (i := 4) (v := ag_rf (g13)) hc (ag_cat_rf _)
    refine gc_aload (r := ((g13))) d_Jg_finish_50 rfl ?_
    refine gc_ifnull (r := ((g13))) d_Jg_finish_52 rfl (fun q => ?_) (fun q => ?_)
    · replace hyp := md_ifp q hyp
      exact ag_dr (ag_d1 rfl ag_d0) (w_Jg_finish_83 hC hH hyp)
    · replace hyp := md_ifn q hyp
      refine gc_aload_n (r := (some (a))) d_Jg_finish_55 rfl ?_
      obtain ⟨g18, eg18, hyp⟩ := md_bd hyp
      refine gc_getr (r := (some (a))) d_Jg_finish_56 fr_Jg_14 eg18 ?_
      refine gc_aload (r := ((g13))) d_Jg_finish_59 rfl ?_
      refine gc_aload_n (r := (some (a))) d_Jg_finish_61 rfl ?_
      refine gc_aload (r := ((g13))) d_Jg_finish_62 rfl ?_
      obtain ⟨g22, eg22, hyp⟩ := md_bd hyp
      refine gc_geti (r := ((g13))) d_Jg_finish_64 fr_Jg_101 eg22 ?_
      obtain ⟨a23, ea23, hyp⟩ := md_bd hyp
      obtain ⟨r23, er23, hyp⟩ := md_bd hyp
      refine gc_callv (r := (some (a))) (as := [.int (g22)]) d_Jg_finish_67 ml_Jg_157 gw_878 rfl sl_Jg_valueOf ea23 (ag_w9 (ag_v1 (ag_cat_rf _) (ag_v1 (ag_cat_rf _) ag_v0)) (Nat.le_of_ble_eq_true rfl)) (w_Jg_valueOf hC (d := d) (by omega) er23) (fun v23 h23 q23 => ?_)
      obtain ⟨rfl, rfl⟩ := q23
      refine gc_aload_n (r := (some (a))) d_Jg_finish_70 rfl ?_
      refine gc_aload (r := ((g13))) d_Jg_finish_71 rfl ?_
      obtain ⟨g26, eg26, hyp⟩ := md_bd hyp
      refine gc_geti (r := ((g13))) d_Jg_finish_73 fr_Jg_106 eg26 ?_
      obtain ⟨a27, ea27, hyp⟩ := md_bd hyp
      obtain ⟨r27, er27, hyp⟩ := md_bd hyp
      refine gc_callv (r := (some (a))) (as := [.int (g26)]) d_Jg_finish_76 ml_Jg_157 gw_878 rfl sl_Jg_valueOf ea27 (ag_w9 (ag_v1 rfl (ag_v1 (ag_cat_rf _) (ag_v1 (ag_cat_rf _) ag_v0))) (Nat.le_of_ble_eq_true rfl)) (w_Jg_valueOf hC (d := d) (by omega) er27) (fun v27 h27 q27 => ?_)
      obtain ⟨rfl, rfl⟩ := q27
      refine ag_iload_n d_Jg_finish_79 rfl ?_
      obtain ⟨a29, ea29, hyp⟩ := md_bd hyp
      obtain ⟨r29, er29, hyp⟩ := md_bd hyp
      refine gc_callv (r := (g18)) (as := [ag_rf ((g13)), .int (r23.1), .int (r27.1), .int (x2)]) d_Jg_finish_80 ml_Jg_109 gw_853 rfl sl_Fa_offer ea29 (Nat.le_of_ble_eq_true rfl) (w_Fa_offer hC (d := d) (by omega) er29) (fun v29 h29 q29 => ?_)
      obtain ⟨rfl, rfl⟩ := q29
      exact ag_dr (ag_d1 rfl ag_d0) (w_Jg_finish_83 hC hH hyp)
  · replace hyp := md_ifn q hyp
    refine gc_aload_n (r := (some (a))) d_Jg_finish_14 rfl ?_
    refine ag_iconst d_Jg_finish_15 ?_
    obtain ⟨h32, eh32, hyp⟩ := md_bd hyp
    refine gc_putf (r := (some (a))) d_Jg_finish_16 fl_Jg_123 (fun q => by cases q) eh32 ?_
    refine gc_aload_n (r := (some (a))) d_Jg_finish_19 rfl ?_
    refine ag_dup d_Jg_finish_20 rfl ?_
    obtain ⟨g35, eg35, hyp⟩ := md_bd hyp
    refine gc_geti (r := (some (a))) d_Jg_finish_21 fr_Jg_117 eg35 ?_
    refine ag_iload_n d_Jg_finish_24 rfl ?_
    refine ag_iconst d_Jg_finish_25 ?_
    refine ag_icmp_ne d_Jg_finish_26 rfl (fun q => ?_) (fun q => ?_)
    · replace hyp := md_ifn q hyp
      refine ag_iconst d_Jg_finish_33 ?_
      exact ag_dr (ag_d1 rfl ag_d0) (w_Jg_finish_34 hC hH hyp)
    · replace hyp := md_ifp q hyp
      refine ag_iconst d_Jg_finish_29 ?_
      refine ag_goto d_Jg_finish_30 rfl ?_
      exact ag_dr (ag_d1 rfl ag_d0) (w_Jg_finish_34 hC hH hyp)
theorem w_Jg_finish {l : Launch} {G : ag_G} {d N : Nat} {C : Nat × Nat} (hC : ag_cN G = C.1 ∧ ag_cS G = C.2) (hH : 1 + 1 ≤ d) {a : Nat} {p1 : Option Nat} {p2 : Int32} {h : ag_H} {res : (Int32) × ag_H} (hyp : fn_Jg_finish N C a p1 p2 h = some res) : ag_Met gc_P l G m_Jg_finish d [.ref a, ag_rf (p1), .int (p2)] h (fun v h' => v = none ∧ h' = res.2) := by
  obtain ⟨d, rfl, hG⟩ := md_dd hH
  exact ag_met0 (by decide) rfl (ag_v1 rfl (ag_v1 (ag_cat_rf _) (ag_v1 rfl ag_v0))) (Nat.le_of_ble_eq_true rfl) (ag_dr (ag_d1 rfl (ag_d1 rfl (ag_d1 rfl ag_d0))) (w_Jg_finish_0 hC hG hyp))
def fn_Jg_fitTerm_44 (N : Nat) (C : Nat × Nat) (a : Nat) (s0 : Int32) (h : ag_H) : Option ((Int32) × ag_H) := some ((s0), h)
def fn_Jg_fitTerm_0 (N : Nat) (C : Nat × Nat) (a : Nat) (x1 : Int32) (x2 : Int32) (x3 : Int32) (h : ag_H) : Option ((Int32) × ag_H) := (fn_At_bit N C (x1) h).bind fun r2 => if ((r2.1) &&& ((x3) ^^^ (Int32.ofInt (-1)))) = (0) then ((ag_rc r2.2 (some (a)) 3).bind fun a12 => (fn_Jg_valueOf N C a12 (x1) r2.2).bind fun r12 => if (r12.1) = (x2) then (fn_Jg_fitTerm_44 N C a (x3) r12.2) else (fn_Jg_fitTerm_44 N C a (Int32.ofInt (-1)) r12.2)) else ((ag_gr r2.2 (some (a)) 3 6).bind fun g19 => (ag_ai r2.2 0 (g19)).bind fun p24 => if md_in ((x1) - ((1048576 : Int32))) p24.1 = true then (some (((x3) ||| (r2.1)), (ag_up r2.2 ((g19).getD 0) (.inl (0, p24.1, .inl (upd p24.2 ((x1) - ((1048576 : Int32))).toNatClampNeg (x2))))))) else none)
def fn_Jg_fitTerm (N : Nat) (C : Nat × Nat) (a : Nat) (p1 : Int32) (p2 : Int32) (p3 : Int32) (h : ag_H) : Option ((Int32) × ag_H) := fn_Jg_fitTerm_0 N C a p1 p2 p3 h
theorem w_Jg_fitTerm_44 {l : Launch} {G : ag_G} {d N : Nat} {C : Nat × Nat} {a : Nat} (hC : ag_cN G = C.1 ∧ ag_cS G = C.2) (hH : 0 ≤ d) {s0 : Int32} {h : ag_H} {res : (Int32) × ag_H} (hyp : fn_Jg_fitTerm_44 N C a s0 h = some res) : ag_ev gc_P l G m_Jg_fitTerm (d + 1) (ag_ret gc_P G (fun v h' => v = some (.int res.1) ∧ h' = res.2)) 44 [(0, .ref a)] [.int (s0)] h := by
  unfold fn_Jg_fitTerm_44 at hyp
  have hc : ag_C1 [(0, .ref a)] := (ag_c1 rfl ag_c0)
  cases hyp
  exact ag_iret d_Jg_fitTerm_44 rfl rfl ⟨rfl, rfl⟩
theorem w_Jg_fitTerm_0 {l : Launch} {G : ag_G} {d N : Nat} {C : Nat × Nat} {a : Nat} (hC : ag_cN G = C.1 ∧ ag_cS G = C.2) (hH : 0 ≤ d) {x1 : Int32} {x2 : Int32} {x3 : Int32} {h : ag_H} {res : (Int32) × ag_H} (hyp : fn_Jg_fitTerm_0 N C a x1 x2 x3 h = some res) : ag_ev gc_P l G m_Jg_fitTerm (d + 1) (ag_ret gc_P G (fun v h' => v = some (.int res.1) ∧ h' = res.2)) 0 [(0, .ref a), (1, .int (x1)), (2, .int (x2)), (3, .int (x3))] [] h := by
  unfold fn_Jg_fitTerm_0 at hyp
  have hc : ag_C1 [(0, .ref a), (1, .int (x1)), (2, .int (x2)), (3, .int (x3))] := (ag_c1 rfl (ag_c1 rfl (ag_c1 rfl (ag_c1 rfl ag_c0))))
  refine ag_iload_n d_Jg_fitTerm_0 rfl ?_
  obtain ⟨r2, er2, hyp⟩ := md_bd hyp
  refine ag_calls (as := [.int (x1)]) d_Jg_fitTerm_1 ml_Jg_169 gw_351 (Nat.le_of_ble_eq_true rfl) (w_At_bit hC (d := d) (by omega) er2) (fun v2 h2 q2 => ?_)
  obtain ⟨rfl, rfl⟩ := q2
  refine gc_istore d_Jg_fitTerm_4 (by decide) hc ?_
  replace hc := ag_cs (i := 4) (v := .int (r2.1)) hc rfl
  refine ag_iload d_Jg_fitTerm_6 rfl ?_
  refine ag_iload_n d_Jg_fitTerm_8 rfl ?_
  refine ag_iconst d_Jg_fitTerm_9 ?_
  refine ag_ixor d_Jg_fitTerm_10 ?_
  refine ag_iand d_Jg_fitTerm_11 ?_
  refine ag_if_eq d_Jg_fitTerm_12 rfl (fun q => ?_) (fun q => ?_)
  · replace hyp := md_ifp q hyp
    refine gc_aload_n (r := (some (a))) d_Jg_fitTerm_30 rfl ?_
    refine ag_iload_n d_Jg_fitTerm_31 rfl ?_
    obtain ⟨a12, ea12, hyp⟩ := md_bd hyp
    obtain ⟨r12, er12, hyp⟩ := md_bd hyp
    refine gc_callv (r := (some (a))) (as := [.int (x1)]) d_Jg_fitTerm_32 ml_Jg_157 gw_878 rfl sl_Jg_valueOf ea12 (Nat.le_of_ble_eq_true rfl) (w_Jg_valueOf hC (d := d) (by omega) er12) (fun v12 h12 q12 => ?_)
    obtain ⟨rfl, rfl⟩ := q12
    refine ag_iload_n d_Jg_fitTerm_35 rfl ?_
    refine ag_icmp_ne d_Jg_fitTerm_36 rfl (fun q => ?_) (fun q => ?_)
    · replace hyp := md_ifn q hyp
      refine ag_iconst d_Jg_fitTerm_43 ?_
      exact ag_dr (ag_d1 rfl ag_d0) (w_Jg_fitTerm_44 hC hH hyp)
    · replace hyp := md_ifp q hyp
      refine ag_iload_n d_Jg_fitTerm_39 rfl ?_
      refine ag_goto d_Jg_fitTerm_40 rfl ?_
      exact ag_dr (ag_d1 rfl ag_d0) (w_Jg_fitTerm_44 hC hH hyp)
  · replace hyp := md_ifn q hyp
    refine gc_aload_n (r := (some (a))) d_Jg_fitTerm_15 rfl ?_
    obtain ⟨g19, eg19, hyp⟩ := md_bd hyp
    refine gc_getr (r := (some (a))) d_Jg_fitTerm_16 fr_Jg_29 eg19 ?_
    refine ag_iload_n d_Jg_fitTerm_19 rfl ?_
    refine ag_ldc d_Jg_fitTerm_20 gw_880 ?_
    refine ag_isub d_Jg_fitTerm_22 ?_
    refine ag_iload_n d_Jg_fitTerm_23 rfl ?_
    obtain ⟨p24, ep24, hyp⟩ := md_bd hyp
    obtain ⟨q24, hyp⟩ := md_ifs hyp
    refine gc_ist (r := (g19)) d_Jg_fitTerm_24 ep24 q24 ?_
    refine ag_iload_n d_Jg_fitTerm_25 rfl ?_
    refine ag_iload d_Jg_fitTerm_26 rfl ?_
    refine ag_ior d_Jg_fitTerm_28 ?_
    cases hyp
    exact ag_iret d_Jg_fitTerm_29 rfl rfl ⟨rfl, rfl⟩
theorem w_Jg_fitTerm {l : Launch} {G : ag_G} {d N : Nat} {C : Nat × Nat} (hC : ag_cN G = C.1 ∧ ag_cS G = C.2) (hH : 0 + 1 ≤ d) {a : Nat} {p1 : Int32} {p2 : Int32} {p3 : Int32} {h : ag_H} {res : (Int32) × ag_H} (hyp : fn_Jg_fitTerm N C a p1 p2 p3 h = some res) : ag_Met gc_P l G m_Jg_fitTerm d [.ref a, .int (p1), .int (p2), .int (p3)] h (fun v h' => v = some (.int res.1) ∧ h' = res.2) := by
  obtain ⟨d, rfl, hG⟩ := md_dd hH
  exact ag_met (by decide) rfl (Nat.le_of_ble_eq_true rfl) (ag_dr (ag_d1 rfl (ag_d1 rfl (ag_d1 rfl (ag_d1 rfl ag_d0)))) (w_Jg_fitTerm_0 hC hG hyp))
