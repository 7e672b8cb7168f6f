/-! Jg_work, Jg_finish, Jg_fitTerm, Jg_fit, Jg_bind, Jg_search, Jg_makeRound, Jg_settle -/
def fn_Jg_work_133 (N : Nat) (C : Nat × Nat) (a : Nat) (k4 : Option Nat → Int32 → Int32 → ag_H → Option ((Int32) × ag_H)) (x1 : Option Nat) (x2 : Int32) (x3 : Int32) (h : ag_H) : Option ((Int32) × ag_H) := k4 (x1) (x2) ((x3) + Int32.ofInt (1)) h
def fn_Jg_work_44 (N : Nat) (C : Nat × Nat) (a : Nat) (k4 : Option Nat → Int32 → Int32 → ag_H → Option ((Int32) × ag_H)) (x1 : Option Nat) (x2 : Int32) (x3 : Int32) (x4 : Int32) (h : ag_H) : Option ((Int32) × ag_H) := if (0) ≤ (x4) then (fn_Jg_work_133 N C a k4 (x1) (x2) (x3) h) else (if (x2) < (Int32.ofInt 2) then (fn_Jg_work_133 N C a k4 (x1) (x2) (x3) h) else ((ag_gr h (some (a)) 3 7).bind fun g7 => (ag_ai h 0 (g7)).bind fun p11 => if md_in ((x2) - (Int32.ofInt 2)) p11.1 = true then ((ag_gr h (some (a)) 3 7).bind fun g14 => (ag_ai h 0 (g14)).bind fun p18 => if md_in ((x2) - (Int32.ofInt 1)) p18.1 = true then ((fn_GC_isComparison N C (-(x4)) h).bind fun r23 => if (r23.1) = (0) then ((fn_Jg_calculate N C (-(x4)) (p11.2 ((x2) - (Int32.ofInt 2)).toNatClampNeg) (p18.2 ((x2) - (Int32.ofInt 1)).toNatClampNeg) r23.2).bind fun r29 => if (r29.1) = ((100000 : Int32)) then (some ((Int32.ofInt (-1)), r29.2)) else ((ag_gr r29.2 (some (a)) 3 7).bind fun g35 => (ag_ai r29.2 0 (g35)).bind fun p38 => if md_in ((x2) + Int32.ofInt (-2)) p38.1 = true then (fn_Jg_work_133 N C a k4 (x1) (((x2) + Int32.ofInt (-2)) + Int32.ofInt (1)) (x3) (ag_up r29.2 ((g35).getD 0) (.inl (0, p38.1, .inl (upd p38.2 ((x2) + Int32.ofInt (-2)).toNatClampNeg (r29.1)))))) else none)) else ((fn_Jg_compare N C (-(x4)) (p11.2 ((x2) - (Int32.ofInt 2)).toNatClampNeg) (p18.2 ((x2) - (Int32.ofInt 1)).toNatClampNeg) r23.2).bind fun r46 => if (r46.1) = (0) then (some ((Int32.ofInt 0), r46.2)) else (fn_Jg_work_133 N C a k4 (x1) ((x2) + Int32.ofInt (-2)) (x3) r46.2))) else none) else none))
def fn_Jg_work_4 (N : Nat) (C : Nat × Nat) (a : Nat) : Nat → Option Nat → Int32 → Int32 → ag_H → Option ((Int32) × ag_H)
  | 0, _, _, _, _ => none
  | n + 1, x1, x2, x3, h => (ag_le h (x1)).bind fun g3 => if (g3) ≤ (x3) then (some ((Int32.ofInt 1), h)) else ((ag_ai h 0 (x1)).bind fun p9 => if md_in (x3) p9.1 = true then (if (p9.2 (x3).toNatClampNeg) < (0) then (fn_Jg_work_44 N C a (fn_Jg_work_4 N C a n) (x1) (x2) (x3) (p9.2 (x3).toNatClampNeg) h) else (if ((Int8.ofInt (40)).toInt32) ≤ (x2) then (fn_Jg_work_44 N C a (fn_Jg_work_4 N C a n) (x1) (x2) (x3) (p9.2 (x3).toNatClampNeg) h) else ((ag_gr h (some (a)) 3 7).bind fun g17 => (ag_rc h (some (a)) 3).bind fun a21 => (fn_Jg_valueOf N C a21 (p9.2 (x3).toNatClampNeg) h).bind fun r21 => (ag_ai r21.2 0 (g17)).bind fun p22 => if md_in (x2) p22.1 = true then (fn_Jg_work_133 N C a (fn_Jg_work_4 N C a n) (x1) ((x2) + Int32.ofInt (1)) (x3) (ag_up r21.2 ((g17).getD 0) (.inl (0, p22.1, .inl (upd p22.2 (x2).toNatClampNeg (r21.1)))))) else none))) else none)
theorem fe_Jg_work_4 (N : Nat) (C : Nat × Nat) (a : Nat) (n : Nat) (x1 : Option Nat) (x2 : Int32) (x3 : Int32) (h : ag_H) : fn_Jg_work_4 N C a (n + 1) x1 x2 x3 h = ((ag_le h (x1)).bind fun g3 => if (g3) ≤ (x3) then (some ((Int32.ofInt 1), h)) else ((ag_ai h 0 (x1)).bind fun p9 => if md_in (x3) p9.1 = true then (if (p9.2 (x3).toNatClampNeg) < (0) then (fn_Jg_work_44 N C a (fn_Jg_work_4 N C a n) (x1) (x2) (x3) (p9.2 (x3).toNatClampNeg) h) else (if ((Int8.ofInt (40)).toInt32) ≤ (x2) then (fn_Jg_work_44 N C a (fn_Jg_work_4 N C a n) (x1) (x2) (x3) (p9.2 (x3).toNatClampNeg) h) else ((ag_gr h (some (a)) 3 7).bind fun g17 => (ag_rc h (some (a)) 3).bind fun a21 => (fn_Jg_valueOf N C a21 (p9.2 (x3).toNatClampNeg) h).bind fun r21 => (ag_ai r21.2 0 (g17)).bind fun p22 => if md_in (x2) p22.1 = true then (fn_Jg_work_133 N C a (fn_Jg_work_4 N C a n) (x1) ((x2) + Int32.ofInt (1)) (x3) (ag_up r21.2 ((g17).getD 0) (.inl (0, p22.1, .inl (upd p22.2 (x2).toNatClampNeg (r21.1)))))) else none))) else none)) := rfl
def fn_Jg_work_0 (N : Nat) (C : Nat × Nat) (a : Nat) (x1 : Option Nat) (h : ag_H) : Option ((Int32) × ag_H) := fn_Jg_work_4 N C a N (x1) (Int32.ofInt 0) (Int32.ofInt 0) h
def fn_Jg_work (N : Nat) (C : Nat × Nat) (a : Nat) (p1 : Option Nat) (h : ag_H) : Option ((Int32) × ag_H) := fn_Jg_work_0 N C a p1 h
theorem w_Jg_work_133 {l : Launch} {G : ag_G} {d N : Nat} {C : Nat × Nat} {a : Nat} (hC : ag_cN G = C.1 ∧ ag_cS G = C.2) (hH : 0 ≤ d) {k4 : Option Nat → Int32 → Int32 → ag_H → Option ((Int32) × ag_H)} (hk4 : ∀ (res : (Int32) × ag_H) (y1 : Option Nat) (y2 : Int32) (y3 : Int32) (hh : ag_H), k4 y1 y2 y3 hh = some res → ag_ev gc_P l G m_Jg_work (d + 1) (ag_ret gc_P G (fun v h' => v = some (.int res.1) ∧ h' = res.2)) 4 [(0, .ref a), (1, ag_rf (y1)), (2, .int (y2)), (3, .int (y3))] [] hh) {x1 : Option Nat} {x2 : Int32} {x3 : Int32} {h : ag_H} {res : (Int32) × ag_H} (hyp : fn_Jg_work_133 N C a k4 x1 x2 x3 h = some res) : ag_ev gc_P l G m_Jg_work (d + 1) (ag_ret gc_P G (fun v h' => v = some (.int res.1) ∧ h' = res.2)) 133 [(0, .ref a), (1, ag_rf (x1)), (2, .int (x2)), (3, .int (x3))] [] h := by
  unfold fn_Jg_work_133 at hyp
  have hc : ag_C1 [(0, .ref a), (1, ag_rf (x1)), (2, .int (x2)), (3, .int (x3))] := (ag_c1 rfl (ag_c1 (ag_cat_rf _) (ag_c1 rfl (ag_c1 rfl ag_c0))))
  refine gc_iinc d_Jg_work_133 rfl (by decide) hc ?_
  replace hc := ag_cs (i := 3) (v := .int ((x3) + Int32.ofInt (1))) hc rfl
  refine ag_goto d_Jg_work_136 rfl ?_
  exact ag_dr (ag_d1 rfl (ag_d1 rfl (ag_d1 rfl (ag_d1 rfl ag_d0)))) (hk4 _ _ _ _ _ hyp)
theorem w_Jg_work_44 {l : Launch} {G : ag_G} {d N : Nat} {C : Nat × Nat} {a : Nat} (hC : ag_cN G = C.1 ∧ ag_cS G = C.2) (hH : 0 ≤ d) {k4 : Option Nat → Int32 → Int32 → ag_H → Option ((Int32) × ag_H)} (hk4 : ∀ (res : (Int32) × ag_H) (y1 : Option Nat) (y2 : Int32) (y3 : Int32) (hh : ag_H), k4 y1 y2 y3 hh = some res → ag_ev gc_P l G m_Jg_work (d + 1) (ag_ret gc_P G (fun v h' => v = some (.int res.1) ∧ h' = res.2)) 4 [(0, .ref a), (1, ag_rf (y1)), (2, .int (y2)), (3, .int (y3))] [] hh) {x1 : Option Nat} {x2 : Int32} {x3 : Int32} {x4 : Int32} {h : ag_H} {res : (Int32) × ag_H} (hyp : fn_Jg_work_44 N C a k4 x1 x2 x3 x4 h = some res) : ag_ev gc_P l G m_Jg_work (d + 1) (ag_ret gc_P G (fun v h' => v = some (.int res.1) ∧ h' = res.2)) 44 [(0, .ref a), (1, ag_rf (x1)), (2, .int (x2)), (3, .int (x3)), (4, .int (x4))] [] h := by
  unfold fn_Jg_work_44 at hyp
  have hc : ag_C1 [(0, .ref a), (1, ag_rf (x1)), (2, .int (x2)), (3, .int (x3)), (4, .int (x4))] := (ag_c1 rfl (ag_c1 (ag_cat_rf _) (ag_c1 rfl (ag_c1 rfl (ag_c1 rfl ag_c0)))))
  refine ag_iload d_Jg_work_44 rfl ?_
  refine ag_if_ge d_Jg_work_46 rfl (fun q => ?_) (fun q => ?_)
  · replace hyp := md_ifp q hyp
    exact ag_dr (ag_d1 rfl (ag_d1 rfl (ag_d1 rfl (ag_d1 rfl ag_d0)))) (w_Jg_work_133 hC hH hk4 hyp)
  · replace hyp := md_ifn q hyp
    refine ag_iload_n d_Jg_work_49 rfl ?_
    refine ag_iconst d_Jg_work_50 ?_
    refine ag_icmp_lt d_Jg_work_51 rfl (fun q => ?_) (fun q => ?_)
    · replace hyp := md_ifp q hyp
      exact ag_dr (ag_d1 rfl (ag_d1 rfl (ag_d1 rfl (ag_d1 rfl ag_d0)))) (w_Jg_work_133 hC hH hk4 hyp)
    · replace hyp := md_ifn q hyp
      refine gc_aload_n (r := (some (a))) d_Jg_work_54 rfl ?_
      obtain ⟨g7, eg7, hyp⟩ := md_bd hyp
      refine gc_getr (r := (some (a))) d_Jg_work_55 fr_Jg_33 eg7 ?_
      refine ag_iload_n d_Jg_work_58 rfl ?_
      refine ag_iconst d_Jg_work_59 ?_
      refine ag_isub d_Jg_work_60 ?_
      obtain ⟨p11, ep11, hyp⟩ := md_bd hyp
      obtain ⟨q11, hyp⟩ := md_ifs hyp
      refine gc_ild (r := (g7)) d_Jg_work_61 ep11 q11 ?_
      refine gc_istore d_Jg_work_62 (by decide) hc ?_
      replace hc := ag_cs (i := 5) (v := .int (p11.2 ((x2) - (Int32.ofInt 2)).toNatClampNeg)) hc rfl
      refine gc_aload_n (r := (some (a))) d_Jg_work_64 rfl ?_
      obtain ⟨g14, eg14, hyp⟩ := md_bd hyp
      refine gc_getr (r := (some (a))) d_Jg_work_65 fr_Jg_33 eg14 ?_
      refine ag_iload_n d_Jg_work_68 rfl ?_
      refine ag_iconst d_Jg_work_69 ?_
      refine ag_isub d_Jg_work_70 ?_
      obtain ⟨p18, ep18, hyp⟩ := md_bd hyp
      obtain ⟨q18, hyp⟩ := md_ifs hyp
      refine gc_ild (r := (g14)) d_Jg_work_71 ep18 q18 ?_
      refine gc_istore d_Jg_work_72 (by decide) hc ?_
      replace hc := ag_cs (i := 6) (v := .int (p18.2 ((x2) - (Int32.ofInt 1)).toNatClampNeg)) hc rfl
      refine gc_iinc d_Jg_work_74 rfl (by decide) hc ?_
      replace hc := ag_cs (i := 2) (v := .int ((x2) + Int32.ofInt (-2))) hc rfl
      refine ag_iload d_Jg_work_77 rfl ?_
      refine ag_ineg d_Jg_work_79 ?_
      obtain ⟨r23, er23, hyp⟩ := md_bd hyp
      refine ag_calls (as := [.int (-(x4))]) d_Jg_work_80 ml_Jg_173 gw_453 (Nat.le_of_ble_eq_true rfl) (w_GC_isComparison hC (d := d) (by omega) er23) (fun v23 h23 q23 => ?_)
      obtain ⟨rfl, rfl⟩ := q23
      refine ag_if_eq d_Jg_work_83 rfl (fun q => ?_) (fun q => ?_)
      · replace hyp := md_ifp q hyp
        refine ag_iload d_Jg_work_101 rfl ?_
        refine ag_ineg d_Jg_work_103 ?_
        refine ag_iload d_Jg_work_104 rfl ?_
        refine ag_iload d_Jg_work_106 rfl ?_
        obtain ⟨r29, er29, hyp⟩ := md_bd hyp
        refine ag_calls (as := [.int (-(x4)), .int (p11.2 ((x2) - (Int32.ofInt 2)).toNatClampNeg), .int (p18.2 ((x2) - (Int32.ofInt 1)).toNatClampNeg)]) d_Jg_work_108 ml_Jg_181 gw_886 (Nat.le_of_ble_eq_true rfl) (w_Jg_calculate hC (d := d) (by omega) er29) (fun v29 h29 q29 => ?_)
        obtain ⟨rfl, rfl⟩ := q29
        refine gc_istore d_Jg_work_111 (by decide) hc ?_
        replace hc := ag_cs (i := 7) (v := .int (r29.1)) hc rfl
        refine ag_iload d_Jg_work_113 rfl ?_
        refine ag_ldc d_Jg_work_115 gw_888 ?_
        refine ag_icmp_ne d_Jg_work_117 rfl (fun q => ?_) (fun q => ?_)
        · replace hyp := md_ifn q hyp
          refine gc_aload_n (r := (some (a))) d_Jg_work_122 rfl ?_
          obtain ⟨g35, eg35, hyp⟩ := md_bd hyp
          refine gc_getr (r := (some (a))) d_Jg_work_123 fr_Jg_33 eg35 ?_
          refine ag_iload_n d_Jg_work_126 rfl ?_
          refine ag_iload d_Jg_work_127 rfl ?_
          obtain ⟨p38, ep38, hyp⟩ := md_bd hyp
          obtain ⟨q38, hyp⟩ := md_ifs hyp
          refine gc_ist (r := (g35)) d_Jg_work_129 ep38 q38 ?_
          refine gc_iinc d_Jg_work_130 rfl (by decide) hc ?_
          replace hc := ag_cs (i := 2) (v := .int (((x2) + Int32.ofInt (-2)) + Int32.ofInt (1))) hc rfl
          exact ag_dr (ag_d1 rfl (ag_d1 rfl (ag_d1 rfl (ag_d1 rfl ag_d0)))) (w_Jg_work_133 hC hH hk4 hyp)
        · replace hyp := md_ifp q hyp
          refine ag_iconst d_Jg_work_120 ?_
          cases hyp
          exact ag_iret d_Jg_work_121 rfl rfl ⟨rfl, rfl⟩
      · replace hyp := md_ifn q hyp
        refine ag_iload d_Jg_work_86 rfl ?_
        refine ag_ineg d_Jg_work_88 ?_
        refine ag_iload d_Jg_work_89 rfl ?_
        refine ag_iload d_Jg_work_91 rfl ?_
        obtain ⟨r46, er46, hyp⟩ := md_bd hyp
        refine ag_calls (as := [.int (-(x4)), .int (p11.2 ((x2) - (Int32.ofInt 2)).toNatClampNeg), .int (p18.2 ((x2) - (Int32.ofInt 1)).toNatClampNeg)]) d_Jg_work_93 ml_Jg_177 gw_883 (Nat.le_of_ble_eq_true rfl) (w_Jg_compare hC (d := d) (by omega) er46) (fun v46 h46 q46 => ?_)
        obtain ⟨rfl, rfl⟩ := q46
        refine ag_if_ne d_Jg_work_96 rfl (fun q => ?_) (fun q => ?_)
        · replace hyp := md_ifn q hyp
          exact ag_dr (ag_d1 rfl (ag_d1 rfl (ag_d1 rfl (ag_d1 rfl ag_d0)))) (w_Jg_work_133 hC hH hk4 hyp)
        · replace hyp := md_ifp q hyp
          refine ag_iconst d_Jg_work_99 ?_
          cases hyp
          exact ag_iret d_Jg_work_100 rfl rfl ⟨rfl, rfl⟩
theorem w_Jg_work_4 {l : Launch} {G : ag_G} {d N : Nat} {C : Nat × Nat} {a : Nat} (hC : ag_cN G = C.1 ∧ ag_cS G = C.2) (hH : 0 ≤ d) : ∀ (n : Nat) (res : (Int32) × ag_H) (x1 : Option Nat) (x2 : Int32) (x3 : Int32) (h : ag_H) , fn_Jg_work_4 N C a n x1 x2 x3 h = some res → ag_ev gc_P l G m_Jg_work (d + 1) (ag_ret gc_P G (fun v h' => v = some (.int res.1) ∧ h' = res.2)) 4 [(0, .ref a), (1, ag_rf (x1)), (2, .int (x2)), (3, .int (x3))] [] h := by
  intro n
  induction n with
  | zero =>
    intro res x1 x2 x3 h hyp
    cases hyp
  | succ n ih =>
    intro res x1 x2 x3 h hyp
    rw [fe_Jg_work_4] at hyp
    have hc : ag_C1 [(0, .ref a), (1, ag_rf (x1)), (2, .int (x2)), (3, .int (x3))] := (ag_c1 rfl (ag_c1 (ag_cat_rf _) (ag_c1 rfl (ag_c1 rfl ag_c0))))
    refine ag_iload_n d_Jg_work_4 rfl ?_
    refine gc_aload_n (r := (x1)) d_Jg_work_5 rfl ?_
    obtain ⟨g3, eg3, hyp⟩ := md_bd hyp
    refine gc_alen (r := (x1)) d_Jg_work_6 eg3 ?_
    refine ag_icmp_ge d_Jg_work_7 rfl (fun q => ?_) (fun q => ?_)
    · replace hyp := md_ifp q hyp
      refine ag_iconst d_Jg_work_139 ?_
      cases hyp
      exact ag_iret d_Jg_work_140 rfl rfl ⟨rfl, rfl⟩
    · replace hyp := md_ifn q hyp
      refine gc_aload_n (r := (x1)) d_Jg_work_10 rfl ?_
      refine ag_iload_n d_Jg_work_11 rfl ?_
      obtain ⟨p9, ep9, hyp⟩ := md_bd hyp
      obtain ⟨q9, hyp⟩ := md_ifs hyp
      refine gc_ild (r := (x1)) d_Jg_work_12 ep9 q9 ?_
      refine gc_istore d_Jg_work_13 (by decide) hc ?_
      replace hc := ag_cs (i := 4) (v := .int (p9.2 (x3).toNatClampNeg)) hc rfl
      refine ag_iload d_Jg_work_15 rfl ?_
      refine ag_if_lt d_Jg_work_17 rfl (fun q => ?_) (fun q => ?_)
      · replace hyp := md_ifp q hyp
        exact ag_dr (ag_d1 rfl (ag_d1 rfl (ag_d1 rfl (ag_d1 rfl (ag_d1 rfl ag_d0))))) (w_Jg_work_44 hC hH ih hyp)
      · replace hyp := md_ifn q hyp
        refine ag_iload_n d_Jg_work_20 rfl ?_
        refine ag_bipush d_Jg_work_21 ?_
        refine ag_icmp_ge d_Jg_work_23 rfl (fun q => ?_) (fun q => ?_)
        · replace hyp := md_ifp q hyp
          exact ag_dr (ag_d1 rfl (ag_d1 rfl (ag_d1 rfl (ag_d1 rfl (ag_d1 rfl ag_d0))))) (w_Jg_work_44 hC hH ih hyp)
        · replace hyp := md_ifn q hyp
          refine gc_aload_n (r := (some (a))) d_Jg_work_26 rfl ?_
          obtain ⟨g17, eg17, hyp⟩ := md_bd hyp
          refine gc_getr (r := (some (a))) d_Jg_work_27 fr_Jg_33 eg17 ?_
          refine ag_iload_n d_Jg_work_30 rfl ?_
          refine gc_aload_n (r := (some (a))) d_Jg_work_31 rfl ?_
          refine ag_iload d_Jg_work_32 rfl ?_
          obtain ⟨a21, ea21, hyp⟩ := md_bd hyp
          obtain ⟨r21, er21, hyp⟩ := md_bd hyp
          refine gc_callv (r := (some (a))) (as := [.int (p9.2 (x3).toNatClampNeg)]) d_Jg_work_34 ml_Jg_157 gw_878 rfl sl_Jg_valueOf ea21 (ag_w9 (ag_v1 rfl (ag_v1 (ag_cat_rf _) ag_v0)) (Nat.le_of_ble_eq_true rfl)) (w_Jg_valueOf hC (d := d) (by omega) er21) (fun v21 h21 q21 => ?_)
          obtain ⟨rfl, rfl⟩ := q21
          obtain ⟨p22, ep22, hyp⟩ := md_bd hyp
          obtain ⟨q22, hyp⟩ := md_ifs hyp
          refine gc_ist (r := (g17)) d_Jg_work_37 ep22 q22 ?_
          refine gc_iinc d_Jg_work_38 rfl (by decide) hc ?_
          replace hc := ag_cs (i := 2) (v := .int ((x2) + Int32.ofInt (1))) hc rfl
          refine ag_goto d_Jg_work_41 rfl ?_
          exact ag_dr (ag_d1 rfl (ag_d1 rfl (ag_d1 rfl (ag_d1 rfl ag_d0)))) (w_Jg_work_133 hC hH ih hyp)
theorem w_Jg_work_0 {l : Launch} {G : ag_G} {d N : Nat} {C : Nat × Nat} {a : Nat} (hC : ag_cN G = C.1 ∧ ag_cS G = C.2) (hH : 0 ≤ d) {x1 : Option Nat} {h : ag_H} {res : (Int32) × ag_H} (hyp : fn_Jg_work_0 N C a x1 h = some res) : ag_ev gc_P l G m_Jg_work (d + 1) (ag_ret gc_P G (fun v h' => v = some (.int res.1) ∧ h' = res.2)) 0 [(0, .ref a), (1, ag_rf (x1))] [] h := by
  unfold fn_Jg_work_0 at hyp
  have hc : ag_C1 [(0, .ref a), (1, ag_rf (x1))] := (ag_c1 rfl (ag_c1 (ag_cat_rf _) ag_c0))
  refine ag_iconst d_Jg_work_0 ?_
  refine gc_istore_n d_Jg_work_1 (by decide) hc ?_
  replace hc := ag_cs (i := 2) (v := .int (Int32.ofInt 0)) hc rfl
  refine ag_iconst d_Jg_work_2 ?_
  refine gc_istore_n d_Jg_work_3 (by decide) hc ?_
  replace hc := ag_cs (i := 3) (v := .int (Int32.ofInt 0)) hc rfl
  exact ag_dr (ag_d1 rfl (ag_d1 rfl (ag_d1 rfl (ag_d1 rfl ag_d0)))) (w_Jg_work_4 hC hH N _ _ _ _ _ hyp)
theorem w_Jg_work {l : Launch} {G : ag_G} {d N : Nat} {C : Nat × Nat} (hC : ag_cN G = C.1 ∧ ag_cS G = C.2) (hH : 0 + 1 ≤ d) {a : Nat} {p1 : Option Nat} {h : ag_H} {res : (Int32) × ag_H} (hyp : fn_Jg_work N C a p1 h = some res) : ag_Met gc_P l G m_Jg_work d [.ref a, ag_rf (p1)] h (fun v h' => v = some (.int res.1) ∧ h' = res.2) := by
  obtain ⟨d, rfl, hG⟩ := md_dd hH
  exact ag_met0 (by decide) rfl (ag_v1 rfl (ag_v1 (ag_cat_rf _) ag_v0)) (Nat.le_of_ble_eq_true rfl) (ag_dr (ag_d1 rfl (ag_d1 rfl ag_d0)) (w_Jg_work_0 hC hG hyp))
def fn_Jg_finish_83 (N : Nat) (C : Nat × Nat) (a : Nat) (h : ag_H) : Option ((Int32) × ag_H) := some (0, h)
def fn_Jg_finish_34 (N : Nat) (C : Nat × Nat) (a : Nat) (s0 : Option Nat) (s1 : Int32) (s2 : Int32) (h : ag_H) : Option ((Int32) × ag_H) := (ag_pf h (ag_rf (s0)) 3 13 .boolean (.int ((s1) ||| (s2)))).bind fun h2 => some (0, h2)
def fn_Jg_finish_0 (N : Nat) (C : Nat × Nat) (a : Nat) (x1 : Option Nat) (x2 : Int32) (h : ag_H) : Option ((Int32) × ag_H) := (ag_gr h (x1) 7 4).bind fun g3 => (ag_rc h (some (a)) 3).bind fun a4 => (fn_Jg_work N C a4 (g3) h).bind fun r4 => if (r4.1) = (Int32.ofInt 1) then ((ag_pf r4.2 (ag_rf (some (a))) 3 11 .boolean (.int (Int32.ofInt 1))).bind fun h11 => (ag_gr h11 (x1) 7 2).bind fun g13 => if ((g13)) = none then (fn_Jg_finish_83 N C a  h11) else ((ag_gr h11 (some (a)) 3 0).bind fun g18 => (ag_gi h11 ((g13)) 6 2).bind fun g22 => (ag_rc h11 (some (a)) 3).bind fun a23 => (fn_Jg_valueOf N C a23 (g22) h11).bind fun r23 => (ag_gi r23.2 ((g13)) 6 3).bind fun g26 => (ag_rc r23.2 (some (a)) 3).bind fun a27 => (fn_Jg_valueOf N C a27 (g26) r23.2).bind fun r27 => (ag_rc r27.2 (g18) 4).bind fun a29 => (fn_Fa_offer N C a29 ((g13)) (r23.1) (r27.1) (x2) r27.2).bind fun r29 => fn_Jg_finish_83 N C a  r29.2)) else ((ag_pf r4.2 (ag_rf (some (a))) 3 12 .boolean (.int (Int32.ofInt 1))).bind fun h32 => (ag_gi h32 (some (a)) 3 13).bind fun g35 => if (r4.1) = (Int32.ofInt (-1)) then (fn_Jg_finish_34 N C a (some (a)) (g35) (Int32.ofInt 1) h32) else (fn_Jg_finish_34 N C a (some (a)) (g35) (Int32.ofInt 0) h32))
def fn_Jg_finish (N : Nat) (C : Nat × Nat) (a : Nat) (p1 : Option Nat) (p2 : Int32) (h : ag_H) : Option ((Int32) × ag_H) := fn_Jg_finish_0 N C a p1 p2 h
theorem w_Jg_finish_83 {l : Launch} {G : ag_G} {d N : Nat} {C : Nat × Nat} {a : Nat} (hC : ag_cN G = C.1 ∧ ag_cS G = C.2) (hH : 1 ≤ d) {h : ag_H} {res : (Int32) × ag_H} (hyp : fn_Jg_finish_83 N C a h = some res) : ag_ev gc_P l G m_Jg_finish (d + 1) (ag_ret gc_P G (fun v h' => v = none ∧ h' = res.2)) 83 [(0, .ref a)] [] h := by
  unfold fn_Jg_finish_83 at hyp
  have hc : ag_C1 [(0, .ref a)] := (ag_c1 rfl ag_c0)
  cases hyp
  exact ag_vret d_Jg_finish_83 rfl ⟨rfl, rfl⟩
theorem w_Jg_finish_34 {l : Launch} {G : ag_G} {d N : Nat} {C : Nat × Nat} {a : Nat} (hC : ag_cN G = C.1 ∧ ag_cS G = C.2) (hH : 1 ≤ d) {s0 : Option Nat} {s1 : Int32} {s2 : Int32} {h : ag_H} {res : (Int32) × ag_H} (hyp : fn_Jg_finish_34 N C a s0 s1 s2 h = some res) : ag_ev gc_P l G m_Jg_finish (d + 1) (ag_ret gc_P G (fun v h' => v = none ∧ h' = res.2)) 34 [(0, .ref a)] [.int (s2), .int (s1), ag_rf (s0)] h := by
  unfold fn_Jg_finish_34 at hyp
  have hc : ag_C1 [(0, .ref a)] := (ag_c1 rfl ag_c0)
  refine ag_ior d_Jg_finish_34 ?_
  obtain ⟨h2, eh2, hyp⟩ := md_bd hyp
  refine gc_putf (r := (s0)) d_Jg_finish_35 fl_Jg_117 (fun q => by cases q) eh2 ?_
  cases hyp
  exact ag_vret d_Jg_finish_38 rfl ⟨rfl, rfl⟩
theorem w_Jg_finish_0 {l : Launch} {G : ag_G} {d N : Nat} {C : Nat × Nat} {a : Nat} (hC : ag_cN G = C.1 ∧ ag_cS G = C.2) (hH : 1 ≤ d) {x1 : Option Nat} {x2 : Int32} {h : ag_H} {res : (Int32) × ag_H} (hyp : fn_Jg_finish_0 N C a x1 x2 h = some res) : ag_ev gc_P l G m_Jg_finish (d + 1) (ag_ret gc_P G (fun v h' => v = none ∧ h' = res.2)) 0 [(0, .ref a), (1, ag_rf (x1)), (2, .int (x2))] [] h := by
  unfold fn_Jg_finish_0 at hyp
  have hc : ag_C1 [(0, .ref a), (1, ag_rf (x1)), (2, .int (x2))] := (ag_c1 rfl (ag_c1 (ag_cat_rf _) (ag_c1 rfl ag_c0)))
  refine gc_aload_n (r := (some (a))) d_Jg_finish_0 rfl ?_
  refine gc_aload_n (r := (x1)) d_Jg_finish_1 rfl ?_
  obtain ⟨g3, eg3, hyp⟩ := md_bd hyp
  refine gc_getr (r := (x1)) d_Jg_finish_2 fr_Jg_150 eg3 ?_
  obtain ⟨a4, ea4, hyp⟩ := md_bd hyp
  obtain ⟨r4, er4, hyp⟩ := md_bd hyp
  refine gc_callv (r := (some (a))) (as := [ag_rf (g3)]) d_Jg_finish_5 ml_Jg_153 gw_874 rfl sl_Jg_work ea4 (Nat.le_of_ble_eq_true rfl) (w_Jg_work hC (d := d) (by omega) er4) (fun v4 h4 q4 => ?_)
  obtain ⟨rfl, rfl⟩ := q4
  refine gc_istore_n d_Jg_finish_8 (by decide) hc ?_
  replace hc := ag_cs (i := 3) (v := .int (r4.1)) hc rfl
  refine ag_iload_n d_Jg_finish_9 rfl ?_
  refine ag_iconst d_Jg_finish_10 ?_
  refine ag_icmp_eq d_Jg_finish_11 rfl (fun q => ?_) (fun q => ?_)
  · replace hyp := md_ifp q hyp
    refine gc_aload_n (r := (some (a))) d_Jg_finish_39 rfl ?_
    refine ag_iconst d_Jg_finish_40 ?_
    obtain ⟨h11, eh11, hyp⟩ := md_bd hyp
    refine gc_putf (r := (some (a))) d_Jg_finish_41 fl_Jg_120 (fun q => by cases q) eh11 ?_
    refine gc_aload_n (r := (x1)) d_Jg_finish_44 rfl ?_
    obtain ⟨g13, eg13, hyp⟩ := md_bd hyp
    refine gc_getr (r := (x1)) d_Jg_finish_45 fr_Jg_97 eg13 ?_
    refine gc_astore0 (r := (g13)) d_Jg_finish_48 (by decide) hc ?_
    replace hc := ag_cs (i := 4) (v := ag_rf (g13)) hc (ag_cat_rf _)
    refine gc_aload (r := ((g13))) d_Jg_finish_50 rfl ?_
    refine gc_ifnull (r := ((g13))) d_Jg_finish_52 rfl (fun q => ?_) (fun q => ?_)
    · replace hyp := md_ifp q hyp
      exact ag_dr (ag_d1 rfl ag_d0) (w_Jg_finish_83 hC hH hyp)
    · replace hyp := md_ifn q hyp
      refine gc_aload_n (r := (some (a))) d_Jg_finish_55 rfl ?_
      obtain ⟨g18, eg18, hyp⟩ := md_bd hyp
      refine gc_getr (r := (some (a))) d_Jg_finish_56 fr_Jg_14 eg18 ?_
      refine gc_aload (r := ((g13))) d_Jg_finish_59 rfl ?_
      refine gc_aload_n (r := (some (a))) d_Jg_finish_61 rfl ?_
      refine gc_aload (r := ((g13))) d_Jg_finish_62 rfl ?_
      obtain ⟨g22, eg22, hyp⟩ := md_bd hyp
      refine gc_geti (r := ((g13))) d_Jg_finish_64 fr_Jg_101 eg22 ?_
      obtain ⟨a23, ea23, hyp⟩ := md_bd hyp
      obtain ⟨r23, er23, hyp⟩ := md_bd hyp
      refine gc_callv (r := (some (a))) (as := [.int (g22)]) d_Jg_finish_67 ml_Jg_157 gw_878 rfl sl_Jg_valueOf ea23 (ag_w9 (ag_v1 (ag_cat_rf _) (ag_v1 (ag_cat_rf _) ag_v0)) (Nat.le_of_ble_eq_true rfl)) (w_Jg_valueOf hC (d := d) (by omega) er23) (fun v23 h23 q23 => ?_)
      obtain ⟨rfl, rfl⟩ := q23
      refine gc_aload_n (r := (some (a))) d_Jg_finish_70 rfl ?_
      refine gc_aload (r := ((g13))) d_Jg_finish_71 rfl ?_
      obtain ⟨g26, eg26, hyp⟩ := md_bd hyp
      refine gc_geti (r := ((g13))) d_Jg_finish_73 fr_Jg_106 eg26 ?_
      obtain ⟨a27, ea27, hyp⟩ := md_bd hyp
      obtain ⟨r27, er27, hyp⟩ := md_bd hyp
      refine gc_callv (r := (some (a))) (as := [.int (g26)]) d_Jg_finish_76 ml_Jg_157 gw_878 rfl sl_Jg_valueOf ea27 (ag_w9 (ag_v1 rfl (ag_v1 (ag_cat_rf _) (ag_v1 (ag_cat_rf _) ag_v0))) (Nat.le_of_ble_eq_true rfl)) (w_Jg_valueOf hC (d := d) (by omega) er27) (fun v27 h27 q27 => ?_)
      obtain ⟨rfl, rfl⟩ := q27
      refine ag_iload_n d_Jg_finish_79 rfl ?_
      obtain ⟨a29, ea29, hyp⟩ := md_bd hyp
      obtain ⟨r29, er29, hyp⟩ := md_bd hyp
      refine gc_callv (r := (g18)) (as := [ag_rf ((g13)), .int (r23.1), .int (r27.1), .int (x2)]) d_Jg_finish_80 ml_Jg_109 gw_853 rfl sl_Fa_offer ea29 (Nat.le_of_ble_eq_true rfl) (w_Fa_offer hC (d := d) (by omega) er29) (fun v29 h29 q29 => ?_)
      obtain ⟨rfl, rfl⟩ := q29
      exact ag_dr (ag_d1 rfl ag_d0) (w_Jg_finish_83 hC hH hyp)
  · replace hyp := md_ifn q hyp
    refine gc_aload_n (r := (some (a))) d_Jg_finish_14 rfl ?_
    refine ag_iconst d_Jg_finish_15 ?_
    obtain ⟨h32, eh32, hyp⟩ := md_bd hyp
    refine gc_putf (r := (some (a))) d_Jg_finish_16 fl_Jg_123 (fun q => by cases q) eh32 ?_
    refine gc_aload_n (r := (some (a))) d_Jg_finish_19 rfl ?_
    refine ag_dup d_Jg_finish_20 rfl ?_
    obtain ⟨g35, eg35, hyp⟩ := md_bd hyp
    refine gc_geti (r := (some (a))) d_Jg_finish_21 fr_Jg_117 eg35 ?_
    refine ag_iload_n d_Jg_finish_24 rfl ?_
    refine ag_iconst d_Jg_finish_25 ?_
    refine ag_icmp_ne d_Jg_finish_26 rfl (fun q => ?_) (fun q => ?_)
    · replace hyp := md_ifn q hyp
      refine ag_iconst d_Jg_finish_33 ?_
      exact ag_dr (ag_d1 rfl ag_d0) (w_Jg_finish_34 hC hH hyp)
    · replace hyp := md_ifp q hyp
      refine ag_iconst d_Jg_finish_29 ?_
      refine ag_goto d_Jg_finish_30 rfl ?_
      exact ag_dr (ag_d1 rfl ag_d0) (w_Jg_finish_34 hC hH hyp)
theorem w_Jg_finish {l : Launch} {G : ag_G} {d N : Nat} {C : Nat × Nat} (hC : ag_cN G = C.1 ∧ ag_cS G = C.2) (hH : 1 + 1 ≤ d) {a : Nat} {p1 : Option Nat} {p2 : Int32} {h : ag_H} {res : (Int32) × ag_H} (hyp : fn_Jg_finish N C a p1 p2 h = some res) : ag_Met gc_P l G m_Jg_finish d [.ref a, ag_rf (p1), .int (p2)] h (fun v h' => v = none ∧ h' = res.2) := by
  obtain ⟨d, rfl, hG⟩ := md_dd hH
  exact ag_met0 (by decide) rfl (ag_v1 rfl (ag_v1 (ag_cat_rf _) (ag_v1 rfl ag_v0))) (Nat.le_of_ble_eq_true rfl) (ag_dr (ag_d1 rfl (ag_d1 rfl (ag_d1 rfl ag_d0))) (w_Jg_finish_0 hC hG hyp))
def fn_Jg_fitTerm_44 (N : Nat) (C : Nat × Nat) (a : Nat) (s0 : Int32) (h : ag_H) : Option ((Int32) × ag_H) := some ((s0), h)
def fn_Jg_fitTerm_0 (N : Nat) (C : Nat × Nat) (a : Nat) (x1 : Int32) (x2 : Int32) (x3 : Int32) (h : ag_H) : Option ((Int32) × ag_H) := (fn_At_bit N C (x1) h).bind fun r2 => if ((r2.1) &&& ((x3) ^^^ (Int32.ofInt (-1)))) = (0) then ((ag_rc r2.2 (some (a)) 3).bind fun a12 => (fn_Jg_valueOf N C a12 (x1) r2.2).bind fun r12 => if (r12.1) = (x2) then (fn_Jg_fitTerm_44 N C a (x3) r12.2) else (fn_Jg_fitTerm_44 N C a (Int32.ofInt (-1)) r12.2)) else ((ag_gr r2.2 (some (a)) 3 6).bind fun g19 => (ag_ai r2.2 0 (g19)).bind fun p24 => if md_in ((x1) - ((1048576 : Int32))) p24.1 = true then (some (((x3) ||| (r2.1)), (ag_up r2.2 ((g19).getD 0) (.inl (0, p24.1, .inl (upd p24.2 ((x1) - ((1048576 : Int32))).toNatClampNeg (x2))))))) else none)
def fn_Jg_fitTerm (N : Nat) (C : Nat × Nat) (a : Nat) (p1 : Int32) (p2 : Int32) (p3 : Int32) (h : ag_H) : Option ((Int32) × ag_H) := fn_Jg_fitTerm_0 N C a p1 p2 p3 h
theorem w_Jg_fitTerm_44 {l : Launch} {G : ag_G} {d N : Nat} {C : Nat × Nat} {a : Nat} (hC : ag_cN G = C.1 ∧ ag_cS G = C.2) (hH : 0 ≤ d) {s0 : Int32} {h : ag_H} {res : (Int32) × ag_H} (hyp : fn_Jg_fitTerm_44 N C a s0 h = some res) : ag_ev gc_P l G m_Jg_fitTerm (d + 1) (ag_ret gc_P G (fun v h' => v = some (.int res.1) ∧ h' = res.2)) 44 [(0, .ref a)] [.int (s0)] h := by
  unfold fn_Jg_fitTerm_44 at hyp
  have hc : ag_C1 [(0, .ref a)] := (ag_c1 rfl ag_c0)
  cases hyp
  exact ag_iret d_Jg_fitTerm_44 rfl rfl ⟨rfl, rfl⟩
theorem w_Jg_fitTerm_0 {l : Launch} {G : ag_G} {d N : Nat} {C : Nat × Nat} {a : Nat} (hC : ag_cN G = C.1 ∧ ag_cS G = C.2) (hH : 0 ≤ d) {x1 : Int32} {x2 : Int32} {x3 : Int32} {h : ag_H} {res : (Int32) × ag_H} (hyp : fn_Jg_fitTerm_0 N C a x1 x2 x3 h = some res) : ag_ev gc_P l G m_Jg_fitTerm (d + 1) (ag_ret gc_P G (fun v h' => v = some (.int res.1) ∧ h' = res.2)) 0 [(0, .ref a), (1, .int (x1)), (2, .int (x2)), (3, .int (x3))] [] h := by
  unfold fn_Jg_fitTerm_0 at hyp
  have hc : ag_C1 [(0, .ref a), (1, .int (x1)), (2, .int (x2)), (3, .int (x3))] := (ag_c1 rfl (ag_c1 rfl (ag_c1 rfl (ag_c1 rfl ag_c0))))
  refine ag_iload_n d_Jg_fitTerm_0 rfl ?_
  obtain ⟨r2, er2, hyp⟩ := md_bd hyp
  refine ag_calls (as := [.int (x1)]) d_Jg_fitTerm_1 ml_Jg_169 gw_351 (Nat.le_of_ble_eq_true rfl) (w_At_bit hC (d := d) (by omega) er2) (fun v2 h2 q2 => ?_)
  obtain ⟨rfl, rfl⟩ := q2
  refine gc_istore d_Jg_fitTerm_4 (by decide) hc ?_
  replace hc := ag_cs (i := 4) (v := .int (r2.1)) hc rfl
  refine ag_iload d_Jg_fitTerm_6 rfl ?_
  refine ag_iload_n d_Jg_fitTerm_8 rfl ?_
  refine ag_iconst d_Jg_fitTerm_9 ?_
  refine ag_ixor d_Jg_fitTerm_10 ?_
  refine ag_iand d_Jg_fitTerm_11 ?_
  refine ag_if_eq d_Jg_fitTerm_12 rfl (fun q => ?_) (fun q => ?_)
  · replace hyp := md_ifp q hyp
    refine gc_aload_n (r := (some (a))) d_Jg_fitTerm_30 rfl ?_
    refine ag_iload_n d_Jg_fitTerm_31 rfl ?_
    obtain ⟨a12, ea12, hyp⟩ := md_bd hyp
    obtain ⟨r12, er12, hyp⟩ := md_bd hyp
    refine gc_callv (r := (some (a))) (as := [.int (x1)]) d_Jg_fitTerm_32 ml_Jg_157 gw_878 rfl sl_Jg_valueOf ea12 (Nat.le_of_ble_eq_true rfl) (w_Jg_valueOf hC (d := d) (by omega) er12) (fun v12 h12 q12 => ?_)
    obtain ⟨rfl, rfl⟩ := q12
    refine ag_iload_n d_Jg_fitTerm_35 rfl ?_
    refine ag_icmp_ne d_Jg_fitTerm_36 rfl (fun q => ?_) (fun q => ?_)
    · replace hyp := md_ifn q hyp
      refine ag_iconst d_Jg_fitTerm_43 ?_
      exact ag_dr (ag_d1 rfl ag_d0) (w_Jg_fitTerm_44 hC hH hyp)
    · replace hyp := md_ifp q hyp
      refine ag_iload_n d_Jg_fitTerm_39 rfl ?_
      refine ag_goto d_Jg_fitTerm_40 rfl ?_
      exact ag_dr (ag_d1 rfl ag_d0) (w_Jg_fitTerm_44 hC hH hyp)
  · replace hyp := md_ifn q hyp
    refine gc_aload_n (r := (some (a))) d_Jg_fitTerm_15 rfl ?_
    obtain ⟨g19, eg19, hyp⟩ := md_bd hyp
    refine gc_getr (r := (some (a))) d_Jg_fitTerm_16 fr_Jg_29 eg19 ?_
    refine ag_iload_n d_Jg_fitTerm_19 rfl ?_
    refine ag_ldc d_Jg_fitTerm_20 gw_880 ?_
    refine ag_isub d_Jg_fitTerm_22 ?_
    refine ag_iload_n d_Jg_fitTerm_23 rfl ?_
    obtain ⟨p24, ep24, hyp⟩ := md_bd hyp
    obtain ⟨q24, hyp⟩ := md_ifs hyp
    refine gc_ist (r := (g19)) d_Jg_fitTerm_24 ep24 q24 ?_
    refine ag_iload_n d_Jg_fitTerm_25 rfl ?_
    refine ag_iload d_Jg_fitTerm_26 rfl ?_
    refine ag_ior d_Jg_fitTerm_28 ?_
    cases hyp
    exact ag_iret d_Jg_fitTerm_29 rfl rfl ⟨rfl, rfl⟩
theorem w_Jg_fitTerm {l : Launch} {G : ag_G} {d N : Nat} {C : Nat × Nat} (hC : ag_cN G = C.1 ∧ ag_cS G = C.2) (hH : 0 + 1 ≤ d) {a : Nat} {p1 : Int32} {p2 : Int32} {p3 : Int32} {h : ag_H} {res : (Int32) × ag_H} (hyp : fn_Jg_fitTerm N C a p1 p2 p3 h = some res) : ag_Met gc_P l G m_Jg_fitTerm d [.ref a, .int (p1), .int (p2), .int (p3)] h (fun v h' => v = some (.int res.1) ∧ h' = res.2) := by
  obtain ⟨d, rfl, hG⟩ := md_dd hH
  exact ag_met (by decide) rfl (Nat.le_of_ble_eq_true rfl) (ag_dr (ag_d1 rfl (ag_d1 rfl (ag_d1 rfl (ag_d1 rfl ag_d0)))) (w_Jg_fitTerm_0 hC hG hyp))
def fn_Jg_fit_33 (N : Nat) (C : Nat × Nat) (a : Nat) (h : ag_H) : Option ((Int32) × ag_H) := some ((Int32.ofInt (-1)), h)
def fn_Jg_fit_72 (N : Nat) (C : Nat × Nat) (a : Nat) (s0 : Int32) (h : ag_H) : Option ((Int32) × ag_H) := some ((s0), h)
def fn_Jg_fit_0 (N : Nat) (C : Nat × Nat) (a : Nat) (x1 : Option Nat) (x2 : Option Nat) (x3 : Int32) (h : ag_H) : Option ((Int32) × ag_H) := (ag_ai h 0 (x2)).bind fun p3 => if md_in (Int32.ofInt 0) p3.1 = true then ((ag_gi h (x1) 6 0).bind fun g5 => if (p3.2 (Int32.ofInt 0).toNatClampNeg) = (g5) then ((ag_ai h 0 (x2)).bind fun p9 => if md_in (Int32.ofInt 1) p9.1 = true then ((ag_gi h (x1) 6 1).bind fun g11 => if (p9.2 (Int32.ofInt 1).toNatClampNeg) = (g11) then ((ag_ai h 0 (x2)).bind fun p15 => if md_in (Int32.ofInt 4) p15.1 = true then ((ag_gi h (some (a)) 3 10).bind fun g17 => if ((p15.2 (Int32.ofInt 4).toNatClampNeg) &&& ((g17) ^^^ (Int32.ofInt (-1)))) = (0) then ((ag_gi h (x1) 6 2).bind fun g24 => (ag_ai h 0 (x2)).bind fun p27 => if md_in (Int32.ofInt 2) p27.1 = true then ((ag_rc h (some (a)) 3).bind fun a29 => (fn_Jg_fitTerm N C a29 (g24) (p27.2 (Int32.ofInt 2).toNatClampNeg) (x3) h).bind fun r29 => if (r29.1) = (Int32.ofInt (-1)) then (fn_Jg_fit_72 N C a (Int32.ofInt (-1)) r29.2) else ((ag_gi r29.2 (x1) 6 3).bind fun g36 => (ag_ai r29.2 0 (x2)).bind fun p39 => if md_in (Int32.ofInt 3) p39.1 = true then ((ag_rc r29.2 (some (a)) 3).bind fun a41 => (fn_Jg_fitTerm N C a41 (g36) (p39.2 (Int32.ofInt 3).toNatClampNeg) (r29.1) r29.2).bind fun r41 => fn_Jg_fit_72 N C a (r41.1) r41.2) else none)) else none) else (fn_Jg_fit_33 N C a  h)) else none) else (fn_Jg_fit_33 N C a  h)) else none) else (fn_Jg_fit_33 N C a  h)) else none
def fn_Jg_fit (N : Nat) (C : Nat × Nat) (a : Nat) (p1 : Option Nat) (p2 : Option Nat) (p3 : Int32) (h : ag_H) : Option ((Int32) × ag_H) := fn_Jg_fit_0 N C a p1 p2 p3 h
theorem w_Jg_fit_33 {l : Launch} {G : ag_G} {d N : Nat} {C : Nat × Nat} {a : Nat} (hC : ag_cN G = C.1 ∧ ag_cS G = C.2) (hH : 1 ≤ d) {h : ag_H} {res : (Int32) × ag_H} (hyp : fn_Jg_fit_33 N C a h = some res) : ag_ev gc_P l G m_Jg_fit (d + 1) (ag_ret gc_P G (fun v h' => v = some (.int res.1) ∧ h' = res.2)) 33 [(0, .ref a)] [] h := by
  unfold fn_Jg_fit_33 at hyp
  have hc : ag_C1 [(0, .ref a)] := (ag_c1 rfl ag_c0)
  refine ag_iconst d_Jg_fit_33 ?_
  cases hyp
  exact ag_iret d_Jg_fit_34 rfl rfl ⟨rfl, rfl⟩
theorem w_Jg_fit_72 {l : Launch} {G : ag_G} {d N : Nat} {C : Nat × Nat} {a : Nat} (hC : ag_cN G = C.1 ∧ ag_cS G = C.2) (hH : 1 ≤ d) {s0 : Int32} {h : ag_H} {res : (Int32) × ag_H} (hyp : fn_Jg_fit_72 N C a s0 h = some res) : ag_ev gc_P l G m_Jg_fit (d + 1) (ag_ret gc_P G (fun v h' => v = some (.int res.1) ∧ h' = res.2)) 72 [(0, .ref a)] [.int (s0)] h := by
  unfold fn_Jg_fit_72 at hyp
  have hc : ag_C1 [(0, .ref a)] := (ag_c1 rfl ag_c0)
  cases hyp
  exact ag_iret d_Jg_fit_72 rfl rfl ⟨rfl, rfl⟩
theorem w_Jg_fit_0 {l : Launch} {G : ag_G} {d N : Nat} {C : Nat × Nat} {a : Nat} (hC : ag_cN G = C.1 ∧ ag_cS G = C.2) (hH : 1 ≤ d) {x1 : Option Nat} {x2 : Option Nat} {x3 : Int32} {h : ag_H} {res : (Int32) × ag_H} (hyp : fn_Jg_fit_0 N C a x1 x2 x3 h = some res) : ag_ev gc_P l G m_Jg_fit (d + 1) (ag_ret gc_P G (fun v h' => v = some (.int res.1) ∧ h' = res.2)) 0 [(0, .ref a), (1, ag_rf (x1)), (2, ag_rf (x2)), (3, .int (x3))] [] h := by
  unfold fn_Jg_fit_0 at hyp
  have hc : ag_C1 [(0, .ref a), (1, ag_rf (x1)), (2, ag_rf (x2)), (3, .int (x3))] := (ag_c1 rfl (ag_c1 (ag_cat_rf _) (ag_c1 (ag_cat_rf _) (ag_c1 rfl ag_c0))))
  refine gc_aload_n (r := (x2)) d_Jg_fit_0 rfl ?_
  refine ag_iconst d_Jg_fit_1 ?_
  obtain ⟨p3, ep3, hyp⟩ := md_bd hyp
  obtain ⟨q3, hyp⟩ := md_ifs hyp
  refine gc_ild (r := (x2)) d_Jg_fit_2 ep3 q3 ?_
  refine gc_aload_n (r := (x1)) d_Jg_fit_3 rfl ?_
  obtain ⟨g5, eg5, hyp⟩ := md_bd hyp
  refine gc_geti (r := (x1)) d_Jg_fit_4 fr_Jg_161 eg5 ?_
  refine ag_icmp_ne d_Jg_fit_7 rfl (fun q => ?_) (fun q => ?_)
  · replace hyp := md_ifn q hyp
    exact ag_dr (ag_d1 rfl ag_d0) (w_Jg_fit_33 hC hH hyp)
  · replace hyp := md_ifp q hyp
    refine gc_aload_n (r := (x2)) d_Jg_fit_10 rfl ?_
    refine ag_iconst d_Jg_fit_11 ?_
    obtain ⟨p9, ep9, hyp⟩ := md_bd hyp
    obtain ⟨q9, hyp⟩ := md_ifs hyp
    refine gc_ild (r := (x2)) d_Jg_fit_12 ep9 q9 ?_
    refine gc_aload_n (r := (x1)) d_Jg_fit_13 rfl ?_
    obtain ⟨g11, eg11, hyp⟩ := md_bd hyp
    refine gc_geti (r := (x1)) d_Jg_fit_14 fr_Jg_164 eg11 ?_
    refine ag_icmp_ne d_Jg_fit_17 rfl (fun q => ?_) (fun q => ?_)
    · replace hyp := md_ifn q hyp
      exact ag_dr (ag_d1 rfl ag_d0) (w_Jg_fit_33 hC hH hyp)
    · replace hyp := md_ifp q hyp
      refine gc_aload_n (r := (x2)) d_Jg_fit_20 rfl ?_
      refine ag_iconst d_Jg_fit_21 ?_
      obtain ⟨p15, ep15, hyp⟩ := md_bd hyp
      obtain ⟨q15, hyp⟩ := md_ifs hyp
      refine gc_ild (r := (x2)) d_Jg_fit_22 ep15 q15 ?_
      refine gc_aload_n (r := (some (a))) d_Jg_fit_23 rfl ?_
      obtain ⟨g17, eg17, hyp⟩ := md_bd hyp
      refine gc_geti (r := (some (a))) d_Jg_fit_24 fr_Jg_129 eg17 ?_
      refine ag_iconst d_Jg_fit_27 ?_
      refine ag_ixor d_Jg_fit_28 ?_
      refine ag_iand d_Jg_fit_29 ?_
      refine ag_if_eq d_Jg_fit_30 rfl (fun q => ?_) (fun q => ?_)
      · replace hyp := md_ifp q hyp
        refine gc_aload_n (r := (some (a))) d_Jg_fit_35 rfl ?_
        refine gc_aload_n (r := (x1)) d_Jg_fit_36 rfl ?_
        obtain ⟨g24, eg24, hyp⟩ := md_bd hyp
        refine gc_geti (r := (x1)) d_Jg_fit_37 fr_Jg_101 eg24 ?_
        refine gc_aload_n (r := (x2)) d_Jg_fit_40 rfl ?_
        refine ag_iconst d_Jg_fit_41 ?_
        obtain ⟨p27, ep27, hyp⟩ := md_bd hyp
        obtain ⟨q27, hyp⟩ := md_ifs hyp
        refine gc_ild (r := (x2)) d_Jg_fit_42 ep27 q27 ?_
        refine ag_iload_n d_Jg_fit_43 rfl ?_
        obtain ⟨a29, ea29, hyp⟩ := md_bd hyp
        obtain ⟨r29, er29, hyp⟩ := md_bd hyp
        refine gc_callv (r := (some (a))) (as := [.int (g24), .int (p27.2 (Int32.ofInt 2).toNatClampNeg), .int (x3)]) d_Jg_fit_44 ml_Jg_165 gw_898 rfl sl_Jg_fitTerm ea29 (Nat.le_of_ble_eq_true rfl) (w_Jg_fitTerm hC (d := d) (by omega) er29) (fun v29 h29 q29 => ?_)
        obtain ⟨rfl, rfl⟩ := q29
        refine gc_istore d_Jg_fit_47 (by decide) hc ?_
        replace hc := ag_cs (i := 4) (v := .int (r29.1)) hc rfl
        refine ag_iload d_Jg_fit_49 rfl ?_
        refine ag_iconst d_Jg_fit_51 ?_
        refine ag_icmp_ne d_Jg_fit_52 rfl (fun q => ?_) (fun q => ?_)
        · replace hyp := md_ifn q hyp
          refine gc_aload_n (r := (some (a))) d_Jg_fit_59 rfl ?_
          refine gc_aload_n (r := (x1)) d_Jg_fit_60 rfl ?_
          obtain ⟨g36, eg36, hyp⟩ := md_bd hyp
          refine gc_geti (r := (x1)) d_Jg_fit_61 fr_Jg_106 eg36 ?_
          refine gc_aload_n (r := (x2)) d_Jg_fit_64 rfl ?_
          refine ag_iconst d_Jg_fit_65 ?_
          obtain ⟨p39, ep39, hyp⟩ := md_bd hyp
          obtain ⟨q39, hyp⟩ := md_ifs hyp
          refine gc_ild (r := (x2)) d_Jg_fit_66 ep39 q39 ?_
          refine ag_iload d_Jg_fit_67 rfl ?_
          obtain ⟨a41, ea41, hyp⟩ := md_bd hyp
          obtain ⟨r41, er41, hyp⟩ := md_bd hyp
          refine gc_callv (r := (some (a))) (as := [.int (g36), .int (p39.2 (Int32.ofInt 3).toNatClampNeg), .int (r29.1)]) d_Jg_fit_69 ml_Jg_165 gw_898 rfl sl_Jg_fitTerm ea41 (Nat.le_of_ble_eq_true rfl) (w_Jg_fitTerm hC (d := d) (by omega) er41) (fun v41 h41 q41 => ?_)
          obtain ⟨rfl, rfl⟩ := q41
          exact ag_dr (ag_d1 rfl ag_d0) (w_Jg_fit_72 hC hH hyp)
        · replace hyp := md_ifp q hyp
          refine ag_iconst d_Jg_fit_55 ?_
          refine ag_goto d_Jg_fit_56 rfl ?_
          exact ag_dr (ag_d1 rfl ag_d0) (w_Jg_fit_72 hC hH hyp)
      · replace hyp := md_ifn q hyp
        exact ag_dr (ag_d1 rfl ag_d0) (w_Jg_fit_33 hC hH hyp)
theorem w_Jg_fit {l : Launch} {G : ag_G} {d N : Nat} {C : Nat × Nat} (hC : ag_cN G = C.1 ∧ ag_cS G = C.2) (hH : 1 + 1 ≤ d) {a : Nat} {p1 : Option Nat} {p2 : Option Nat} {p3 : Int32} {h : ag_H} {res : (Int32) × ag_H} (hyp : fn_Jg_fit N C a p1 p2 p3 h = some res) : ag_Met gc_P l G m_Jg_fit d [.ref a, ag_rf (p1), ag_rf (p2), .int (p3)] h (fun v h' => v = some (.int res.1) ∧ h' = res.2) := by
  obtain ⟨d, rfl, hG⟩ := md_dd hH
  exact ag_met0 (by decide) rfl (ag_v1 rfl (ag_v1 (ag_cat_rf _) (ag_v1 (ag_cat_rf _) (ag_v1 rfl ag_v0)))) (Nat.le_of_ble_eq_true rfl) (ag_dr (ag_d1 rfl (ag_d1 rfl (ag_d1 rfl (ag_d1 rfl ag_d0)))) (w_Jg_fit_0 hC hG hyp))
def fn_Jg_bind_110 (N : Nat) (C : Nat × Nat) (kR : Nat → Option Nat → Int32 → Int32 → Int32 → ag_H → Option ((Int32) × ag_H)) (a : Nat) (h : ag_H) : Option ((Int32) × ag_H) := some (0, h)
def fn_Jg_bind_104 (N : Nat) (C : Nat × Nat) (kR : Nat → Option Nat → Int32 → Int32 → Int32 → ag_H → Option ((Int32) × ag_H)) (a : Nat) (k39 : Option Nat → Int32 → Int32 → Int32 → Option Nat → Int32 → ag_H → Option ((Int32) × ag_H)) (x1 : Option Nat) (x2 : Int32) (x3 : Int32) (x4 : Int32) (x5 : Option Nat) (x6 : Int32) (h : ag_H) : Option ((Int32) × ag_H) := k39 (x1) (x2) (x3) (x4) (x5) ((x6) + Int32.ofInt (1)) h
def fn_Jg_bind_39 (N : Nat) (C : Nat × Nat) (kR : Nat → Option Nat → Int32 → Int32 → Int32 → ag_H → Option ((Int32) × ag_H)) (a : Nat) : Nat → Option Nat → Int32 → Int32 → Int32 → Option Nat → Int32 → ag_H → Option ((Int32) × ag_H)
  | 0, _, _, _, _, _, _, _ => none
  | n + 1, x1, x2, x3, x4, x5, x6, h => (ag_gi h (some (a)) 3 8).bind fun g3 => if (g3) ≤ (x6) then (fn_Jg_bind_110 N C kR a  h) else ((ag_gr h (some (a)) 3 0).bind fun g6 => (ag_gi h (g6) 4 2).bind fun g7 => if (g7) = (0) then ((ag_gr h (some (a)) 3 0).bind fun g10 => (ag_gr h (g10) 4 0).bind fun g11 => (ag_ao h (g11)).bind fun p13 => if md_in (x6) p13.1 = true then ((ag_rc h (some (a)) 3).bind fun a19 => (fn_Jg_fit N C a19 (x5) ((p13.2 (x6).toNatClampNeg)) (x3) h).bind fun r19 => if (r19.1) = (Int32.ofInt (-1)) then (fn_Jg_bind_104 N C kR a (fn_Jg_bind_39 N C kR a n) (x1) (x2) (x3) (x4) (x5) (x6) r19.2) else ((ag_ai r19.2 0 ((p13.2 (x6).toNatClampNeg))).bind fun p33 => if md_in (Int32.ofInt 4) p33.1 = true then ((ag_rc r19.2 (some (a)) 3).bind fun a35 => (kR a35 (x1) ((x2) + (Int32.ofInt 1)) (r19.1) ((x4) ||| (p33.2 (Int32.ofInt 4).toNatClampNeg)) r19.2).bind fun r35 => fn_Jg_bind_104 N C kR a (fn_Jg_bind_39 N C kR a n) (x1) (x2) (x3) (x4) (x5) (x6) r35.2) else none)) else none) else (fn_Jg_bind_110 N C kR a  h))
theorem fe_Jg_bind_39 (N : Nat) (C : Nat × Nat) (kR : Nat → Option Nat → Int32 → Int32 → Int32 → ag_H → Option ((Int32) × ag_H)) (a : Nat) (n : Nat) (x1 : Option Nat) (x2 : Int32) (x3 : Int32) (x4 : Int32) (x5 : Option Nat) (x6 : Int32) (h : ag_H) : fn_Jg_bind_39 N C kR a (n + 1) x1 x2 x3 x4 x5 x6 h = ((ag_gi h (some (a)) 3 8).bind fun g3 => if (g3) ≤ (x6) then (fn_Jg_bind_110 N C kR a  h) else ((ag_gr h (some (a)) 3 0).bind fun g6 => (ag_gi h (g6) 4 2).bind fun g7 => if (g7) = (0) then ((ag_gr h (some (a)) 3 0).bind fun g10 => (ag_gr h (g10) 4 0).bind fun g11 => (ag_ao h (g11)).bind fun p13 => if md_in (x6) p13.1 = true then ((ag_rc h (some (a)) 3).bind fun a19 => (fn_Jg_fit N C a19 (x5) ((p13.2 (x6).toNatClampNeg)) (x3) h).bind fun r19 => if (r19.1) = (Int32.ofInt (-1)) then (fn_Jg_bind_104 N C kR a (fn_Jg_bind_39 N C kR a n) (x1) (x2) (x3) (x4) (x5) (x6) r19.2) else ((ag_ai r19.2 0 ((p13.2 (x6).toNatClampNeg))).bind fun p33 => if md_in (Int32.ofInt 4) p33.1 = true then ((ag_rc r19.2 (some (a)) 3).bind fun a35 => (kR a35 (x1) ((x2) + (Int32.ofInt 1)) (r19.1) ((x4) ||| (p33.2 (Int32.ofInt 4).toNatClampNeg)) r19.2).bind fun r35 => fn_Jg_bind_104 N C kR a (fn_Jg_bind_39 N C kR a n) (x1) (x2) (x3) (x4) (x5) (x6) r35.2) else none)) else none) else (fn_Jg_bind_110 N C kR a  h))) := rfl
def fn_Jg_bind_0 (N : Nat) (C : Nat × Nat) (kR : Nat → Option Nat → Int32 → Int32 → Int32 → ag_H → Option ((Int32) × ag_H)) (a : Nat) (x1 : Option Nat) (x2 : Int32) (x3 : Int32) (x4 : Int32) (h : ag_H) : Option ((Int32) × ag_H) := (ag_gr h (x1) 7 3).bind fun g3 => (ag_rc h (g3) 11).bind fun a4 => (fn_AL_size N C a4  h).bind fun r4 => if (x2) < (r4.1) then ((ag_gr r4.2 (x1) 7 3).bind fun g7 => (ag_rc r4.2 (g7) 11).bind fun a9 => (fn_AL_get N C a9 (x2) r4.2).bind fun r9 => if ag_ck r9.2 (r9.1) 6 = true then (fn_Jg_bind_39 N C kR a N (x1) (x2) (x3) (x4) ((r9.1)) (Int32.ofInt 0) r9.2) else none) else ((ag_rc r4.2 (some (a)) 3).bind fun a17 => (fn_Jg_finish N C a17 (x1) (x4) r4.2).bind fun r17 => some (0, r17.2))
def fn_Jg_bind (N : Nat) (C : Nat × Nat) (kR : Nat → Option Nat → Int32 → Int32 → Int32 → ag_H → Option ((Int32) × ag_H)) (a : Nat) (p1 : Option Nat) (p2 : Int32) (p3 : Int32) (p4 : Int32) (h : ag_H) : Option ((Int32) × ag_H) := fn_Jg_bind_0 N C kR a p1 p2 p3 p4 h
theorem w_Jg_bind_110 {l : Launch} {G : ag_G} {d N Hk : Nat} {C : Nat × Nat} {a : Nat} {kR : Nat → Option Nat → Int32 → Int32 → Int32 → ag_H → Option ((Int32) × ag_H)} (hC : ag_cN G = C.1 ∧ ag_cS G = C.2) (hkR : ∀ (dk : Nat), Hk ≤ dk → ∀ (ua : Nat) (u0 : Option Nat) (u1 : Int32) (u2 : Int32) (u3 : Int32) (hh : ag_H) (res : (Int32) × ag_H), kR ua u0 u1 u2 u3 hh = some res → ag_Met gc_P l G m_Jg_bind dk [.ref ua, ag_rf u0, .int u1, .int u2, .int u3] hh (fun v h' => v = none ∧ h' = res.2)) (hH : Hk + 2 ≤ d) {h : ag_H} {res : (Int32) × ag_H} (hyp : fn_Jg_bind_110 N C kR a h = some res) : ag_ev gc_P l G m_Jg_bind (d + 1) (ag_ret gc_P G (fun v h' => v = none ∧ h' = res.2)) 110 [(0, .ref a)] [] h := by
  unfold fn_Jg_bind_110 at hyp
  have hc : ag_C1 [(0, .ref a)] := (ag_c1 rfl ag_c0)
  cases hyp
  exact ag_vret d_Jg_bind_110 rfl ⟨rfl, rfl⟩
theorem w_Jg_bind_104 {l : Launch} {G : ag_G} {d N Hk : Nat} {C : Nat × Nat} {a : Nat} {kR : Nat → Option Nat → Int32 → Int32 → Int32 → ag_H → Option ((Int32) × ag_H)} (hC : ag_cN G = C.1 ∧ ag_cS G = C.2) (hkR : ∀ (dk : Nat), Hk ≤ dk → ∀ (ua : Nat) (u0 : Option Nat) (u1 : Int32) (u2 : Int32) (u3 : Int32) (hh : ag_H) (res : (Int32) × ag_H), kR ua u0 u1 u2 u3 hh = some res → ag_Met gc_P l G m_Jg_bind dk [.ref ua, ag_rf u0, .int u1, .int u2, .int u3] hh (fun v h' => v = none ∧ h' = res.2)) (hH : Hk + 2 ≤ d) {k39 : Option Nat → Int32 → Int32 → Int32 → Option Nat → Int32 → ag_H → Option ((Int32) × ag_H)} (hk39 : ∀ (res : (Int32) × ag_H) (y1 : Option Nat) (y2 : Int32) (y3 : Int32) (y4 : Int32) (y5 : Option Nat) (y6 : Int32) (hh : ag_H), k39 y1 y2 y3 y4 y5 y6 hh = some res → ag_ev gc_P l G m_Jg_bind (d + 1) (ag_ret gc_P G (fun v h' => v = none ∧ h' = res.2)) 39 [(0, .ref a), (1, ag_rf (y1)), (2, .int (y2)), (3, .int (y3)), (4, .int (y4)), (5, ag_rf (y5)), (6, .int (y6))] [] hh) {x1 : Option Nat} {x2 : Int32} {x3 : Int32} {x4 : Int32} {x5 : Option Nat} {x6 : Int32} {h : ag_H} {res : (Int32) × ag_H} (hyp : fn_Jg_bind_104 N C kR a k39 x1 x2 x3 x4 x5 x6 h = some res) : ag_ev gc_P l G m_Jg_bind (d + 1) (ag_ret gc_P G (fun v h' => v = none ∧ h' = res.2)) 104 [(0, .ref a), (1, ag_rf (x1)), (2, .int (x2)), (3, .int (x3)), (4, .int (x4)), (5, ag_rf (x5)), (6, .int (x6))] [] h := by
  unfold fn_Jg_bind_104 at hyp
  have hc : ag_C1 [(0, .ref a), (1, ag_rf (x1)), (2, .int (x2)), (3, .int (x3)), (4, .int (x4)), (5, ag_rf (x5)), (6, .int (x6))] := (ag_c1 rfl (ag_c1 (ag_cat_rf _) (ag_c1 rfl (ag_c1 rfl (ag_c1 rfl (ag_c1 (ag_cat_rf _) (ag_c1 rfl ag_c0)))))))
  refine gc_iinc d_Jg_bind_104 rfl (by decide) hc ?_
  replace hc := ag_cs (i := 6) (v := .int ((x6) + Int32.ofInt (1))) hc rfl
  refine ag_goto d_Jg_bind_107 rfl ?_
  exact ag_dr (ag_d1 rfl (ag_d1 rfl (ag_d1 rfl (ag_d1 rfl (ag_d1 rfl (ag_d1 rfl (ag_d1 rfl ag_d0))))))) (hk39 _ _ _ _ _ _ _ _ hyp)
theorem w_Jg_bind_39 {l : Launch} {G : ag_G} {d N Hk : Nat} {C : Nat × Nat} {a : Nat} {kR : Nat → Option Nat → Int32 → Int32 → Int32 → ag_H → Option ((Int32) × ag_H)} (hC : ag_cN G = C.1 ∧ ag_cS G = C.2) (hkR : ∀ (dk : Nat), Hk ≤ dk → ∀ (ua : Nat) (u0 : Option Nat) (u1 : Int32) (u2 : Int32) (u3 : Int32) (hh : ag_H) (res : (Int32) × ag_H), kR ua u0 u1 u2 u3 hh = some res → ag_Met gc_P l G m_Jg_bind dk [.ref ua, ag_rf u0, .int u1, .int u2, .int u3] hh (fun v h' => v = none ∧ h' = res.2)) (hH : Hk + 2 ≤ d) : ∀ (n : Nat) (res : (Int32) × ag_H) (x1 : Option Nat) (x2 : Int32) (x3 : Int32) (x4 : Int32) (x5 : Option Nat) (x6 : Int32) (h : ag_H) , fn_Jg_bind_39 N C kR a n x1 x2 x3 x4 x5 x6 h = some res → ag_ev gc_P l G m_Jg_bind (d + 1) (ag_ret gc_P G (fun v h' => v = none ∧ h' = res.2)) 39 [(0, .ref a), (1, ag_rf (x1)), (2, .int (x2)), (3, .int (x3)), (4, .int (x4)), (5, ag_rf (x5)), (6, .int (x6))] [] h := by
  intro n
  induction n with
  | zero =>
    intro res x1 x2 x3 x4 x5 x6 h hyp
    cases hyp
  | succ n ih =>
    intro res x1 x2 x3 x4 x5 x6 h hyp
    rw [fe_Jg_bind_39] at hyp
    have hc : ag_C1 [(0, .ref a), (1, ag_rf (x1)), (2, .int (x2)), (3, .int (x3)), (4, .int (x4)), (5, ag_rf (x5)), (6, .int (x6))] := (ag_c1 rfl (ag_c1 (ag_cat_rf _) (ag_c1 rfl (ag_c1 rfl (ag_c1 rfl (ag_c1 (ag_cat_rf _) (ag_c1 rfl ag_c0)))))))
    refine ag_iload d_Jg_bind_39 rfl ?_
    refine gc_aload_n (r := (some (a))) d_Jg_bind_41 rfl ?_
    obtain ⟨g3, eg3, hyp⟩ := md_bd hyp
    refine gc_geti (r := (some (a))) d_Jg_bind_42 fr_Jg_66 eg3 ?_
    refine ag_icmp_ge d_Jg_bind_45 rfl (fun q => ?_) (fun q => ?_)
    · replace hyp := md_ifp q hyp
      exact ag_dr (ag_d1 rfl ag_d0) (w_Jg_bind_110 hC hkR hH hyp)
    · replace hyp := md_ifn q hyp
      refine gc_aload_n (r := (some (a))) d_Jg_bind_48 rfl ?_
      obtain ⟨g6, eg6, hyp⟩ := md_bd hyp
      refine gc_getr (r := (some (a))) d_Jg_bind_49 fr_Jg_14 eg6 ?_
      obtain ⟨g7, eg7, hyp⟩ := md_bd hyp
      refine gc_geti (r := (g6)) d_Jg_bind_52 fr_Jg_59 eg7 ?_
      refine ag_if_ne d_Jg_bind_55 rfl (fun q => ?_) (fun q => ?_)
      · replace hyp := md_ifn q hyp
        exact ag_dr (ag_d1 rfl ag_d0) (w_Jg_bind_110 hC hkR hH hyp)
      · replace hyp := md_ifp q hyp
        refine gc_aload_n (r := (some (a))) d_Jg_bind_58 rfl ?_
        obtain ⟨g10, eg10, hyp⟩ := md_bd hyp
        refine gc_getr (r := (some (a))) d_Jg_bind_59 fr_Jg_14 eg10 ?_
        obtain ⟨g11, eg11, hyp⟩ := md_bd hyp
        refine gc_getr (r := (g10)) d_Jg_bind_62 fr_Jg_142 eg11 ?_
        refine ag_iload d_Jg_bind_65 rfl ?_
        obtain ⟨p13, ep13, hyp⟩ := md_bd hyp
        obtain ⟨q13, hyp⟩ := md_ifs hyp
        refine gc_ald (r := (g11)) d_Jg_bind_67 ep13 q13 ?_
        refine gc_astore0 (r := (p13.2 (x6).toNatClampNeg)) d_Jg_bind_68 (by decide) hc ?_
        replace hc := ag_cs (i := 7) (v := ag_rf (p13.2 (x6).toNatClampNeg)) hc (ag_cat_rf _)
        refine gc_aload_n (r := (some (a))) d_Jg_bind_70 rfl ?_
        refine gc_aload (r := (x5)) d_Jg_bind_71 rfl ?_
        refine gc_aload (r := ((p13.2 (x6).toNatClampNeg))) d_Jg_bind_73 rfl ?_
        refine ag_iload_n d_Jg_bind_75 rfl ?_
        obtain ⟨a19, ea19, hyp⟩ := md_bd hyp
        obtain ⟨r19, er19, hyp⟩ := md_bd hyp
        refine gc_callv (r := (some (a))) (as := [ag_rf (x5), ag_rf ((p13.2 (x6).toNatClampNeg)), .int (x3)]) d_Jg_bind_76 ml_Jg_146 gw_894 rfl sl_Jg_fit ea19 (Nat.le_of_ble_eq_true rfl) (w_Jg_fit hC (d := d) (by omega) er19) (fun v19 h19 q19 => ?_)
        obtain ⟨rfl, rfl⟩ := q19
        refine gc_istore d_Jg_bind_79 (by decide) hc ?_
        replace hc := ag_cs (i := 8) (v := .int (r19.1)) hc rfl
        refine ag_iload d_Jg_bind_81 rfl ?_
        refine ag_iconst d_Jg_bind_83 ?_
        refine ag_icmp_eq d_Jg_bind_84 rfl (fun q => ?_) (fun q => ?_)
        · replace hyp := md_ifp q hyp
          exact ag_dr (ag_d1 rfl (ag_d1 rfl (ag_d1 rfl (ag_d1 rfl (ag_d1 rfl (ag_d1 rfl (ag_d1 rfl ag_d0))))))) (w_Jg_bind_104 hC hkR hH ih hyp)
        · replace hyp := md_ifn q hyp
          refine gc_aload_n (r := (some (a))) d_Jg_bind_87 rfl ?_
          refine gc_aload_n (r := (x1)) d_Jg_bind_88 rfl ?_
          refine ag_iload_n d_Jg_bind_89 rfl ?_
          refine ag_iconst d_Jg_bind_90 ?_
          refine ag_iadd d_Jg_bind_91 ?_
          refine ag_iload d_Jg_bind_92 rfl ?_
          refine ag_iload d_Jg_bind_94 rfl ?_
          refine gc_aload (r := ((p13.2 (x6).toNatClampNeg))) d_Jg_bind_96 rfl ?_
          refine ag_iconst d_Jg_bind_98 ?_
          obtain ⟨p33, ep33, hyp⟩ := md_bd hyp
          obtain ⟨q33, hyp⟩ := md_ifs hyp
          refine gc_ild (r := ((p13.2 (x6).toNatClampNeg))) d_Jg_bind_99 ep33 q33 ?_
          refine ag_ior d_Jg_bind_100 ?_
          obtain ⟨a35, ea35, hyp⟩ := md_bd hyp
          obtain ⟨r35, er35, hyp⟩ := md_bd hyp
          refine gc_callv (r := (some (a))) (as := [ag_rf (x1), .int ((x2) + (Int32.ofInt 1)), .int (r19.1), .int ((x4) ||| (p33.2 (Int32.ofInt 4).toNatClampNeg))]) d_Jg_bind_101 ml_Jg_132 gw_866 rfl sl_Jg_bind ea35 (Nat.le_of_ble_eq_true rfl) (hkR d (by omega) _ _ _ _ _ _ _ er35) (fun v35 h35 q35 => ?_)
          obtain ⟨rfl, rfl⟩ := q35
          exact ag_dr (ag_d1 rfl (ag_d1 rfl (ag_d1 rfl (ag_d1 rfl (ag_d1 rfl (ag_d1 rfl (ag_d1 rfl ag_d0))))))) (w_Jg_bind_104 hC hkR hH ih hyp)
theorem w_Jg_bind_0 {l : Launch} {G : ag_G} {d N Hk : Nat} {C : Nat × Nat} {a : Nat} {kR : Nat → Option Nat → Int32 → Int32 → Int32 → ag_H → Option ((Int32) × ag_H)} (hC : ag_cN G = C.1 ∧ ag_cS G = C.2) (hkR : ∀ (dk : Nat), Hk ≤ dk → ∀ (ua : Nat) (u0 : Option Nat) (u1 : Int32) (u2 : Int32) (u3 : Int32) (hh : ag_H) (res : (Int32) × ag_H), kR ua u0 u1 u2 u3 hh = some res → ag_Met gc_P l G m_Jg_bind dk [.ref ua, ag_rf u0, .int u1, .int u2, .int u3] hh (fun v h' => v = none ∧ h' = res.2)) (hH : Hk + 2 ≤ d) {x1 : Option Nat} {x2 : Int32} {x3 : Int32} {x4 : Int32} {h : ag_H} {res : (Int32) × ag_H} (hyp : fn_Jg_bind_0 N C kR a x1 x2 x3 x4 h = some res) : ag_ev gc_P l G m_Jg_bind (d + 1) (ag_ret gc_P G (fun v h' => v = none ∧ h' = res.2)) 0 [(0, .ref a), (1, ag_rf (x1)), (2, .int (x2)), (3, .int (x3)), (4, .int (x4))] [] h := by
  unfold fn_Jg_bind_0 at hyp
  have hc : ag_C1 [(0, .ref a), (1, ag_rf (x1)), (2, .int (x2)), (3, .int (x3)), (4, .int (x4))] := (ag_c1 rfl (ag_c1 (ag_cat_rf _) (ag_c1 rfl (ag_c1 rfl (ag_c1 rfl ag_c0)))))
  refine ag_iload_n d_Jg_bind_0 rfl ?_
  refine gc_aload_n (r := (x1)) d_Jg_bind_1 rfl ?_
  obtain ⟨g3, eg3, hyp⟩ := md_bd hyp
  refine gc_getr (r := (x1)) d_Jg_bind_2 fr_Jg_136 eg3 ?_
  obtain ⟨a4, ea4, hyp⟩ := md_bd hyp
  obtain ⟨r4, er4, hyp⟩ := md_bd hyp
  refine gc_callf (r := (g3)) (as := []) d_Jg_bind_5 il_Jg_84 ea4 (Nat.le_of_ble_eq_true rfl) (w_AL_size hC (d := d) (by omega) er4) (fun v4 h4 q4 => ?_)
  obtain ⟨rfl, rfl⟩ := q4
  refine ag_icmp_lt d_Jg_bind_10 rfl (fun q => ?_) (fun q => ?_)
  · replace hyp := md_ifp q hyp
    refine gc_aload_n (r := (x1)) d_Jg_bind_21 rfl ?_
    obtain ⟨g7, eg7, hyp⟩ := md_bd hyp
    refine gc_getr (r := (x1)) d_Jg_bind_22 fr_Jg_136 eg7 ?_
    refine ag_iload_n d_Jg_bind_25 rfl ?_
    obtain ⟨a9, ea9, hyp⟩ := md_bd hyp
    obtain ⟨r9, er9, hyp⟩ := md_bd hyp
    refine gc_callf (r := (g7)) (as := [.int (x2)]) d_Jg_bind_26 il_Jg_88 ea9 (Nat.le_of_ble_eq_true rfl) (w_AL_get hC (d := d) (by omega) er9) (fun v9 h9 q9 => ?_)
    obtain ⟨rfl, rfl⟩ := q9
    obtain ⟨q10, hyp⟩ := md_ifs hyp
    refine gc_cast (r := (r9.1)) d_Jg_bind_31 gw_891 rfl q10 ?_
    refine gc_astore0 (r := (r9.1)) d_Jg_bind_34 (by decide) hc ?_
    replace hc := ag_cs (i := 5) (v := ag_rf (r9.1)) hc (ag_cat_rf _)
    refine ag_iconst d_Jg_bind_36 ?_
    refine gc_istore d_Jg_bind_37 (by decide) hc ?_
    replace hc := ag_cs (i := 6) (v := .int (Int32.ofInt 0)) hc rfl
    exact ag_dr (ag_d1 rfl (ag_d1 rfl (ag_d1 rfl (ag_d1 rfl (ag_d1 rfl (ag_d1 rfl (ag_d1 rfl ag_d0))))))) (w_Jg_bind_39 hC hkR hH N _ _ _ _ _ _ _ _ hyp)
  · replace hyp := md_ifn q hyp
    refine gc_aload_n (r := (some (a))) d_Jg_bind_13 rfl ?_
    refine gc_aload_n (r := (x1)) d_Jg_bind_14 rfl ?_
    refine ag_iload d_Jg_bind_15 rfl ?_
    obtain ⟨a17, ea17, hyp⟩ := md_bd hyp
    obtain ⟨r17, er17, hyp⟩ := md_bd hyp
    refine gc_callv (r := (some (a))) (as := [ag_rf (x1), .int (x4)]) d_Jg_bind_17 ml_Jg_139 gw_870 rfl sl_Jg_finish ea17 (Nat.le_of_ble_eq_true rfl) (w_Jg_finish hC (d := d) (by omega) er17) (fun v17 h17 q17 => ?_)
    obtain ⟨rfl, rfl⟩ := q17
    cases hyp
    exact ag_vret d_Jg_bind_20 rfl ⟨rfl, rfl⟩
theorem w_Jg_bind {l : Launch} {G : ag_G} {d N Hk : Nat} {C : Nat × Nat} {kR : Nat → Option Nat → Int32 → Int32 → Int32 → ag_H → Option ((Int32) × ag_H)} (hC : ag_cN G = C.1 ∧ ag_cS G = C.2) (hkR : ∀ (dk : Nat), Hk ≤ dk → ∀ (ua : Nat) (u0 : Option Nat) (u1 : Int32) (u2 : Int32) (u3 : Int32) (hh : ag_H) (res : (Int32) × ag_H), kR ua u0 u1 u2 u3 hh = some res → ag_Met gc_P l G m_Jg_bind dk [.ref ua, ag_rf u0, .int u1, .int u2, .int u3] hh (fun v h' => v = none ∧ h' = res.2)) (hH : Hk + 2 + 1 ≤ d) {a : Nat} {p1 : Option Nat} {p2 : Int32} {p3 : Int32} {p4 : Int32} {h : ag_H} {res : (Int32) × ag_H} (hyp : fn_Jg_bind N C kR a p1 p2 p3 p4 h = some res) : ag_Met gc_P l G m_Jg_bind d [.ref a, ag_rf (p1), .int (p2), .int (p3), .int (p4)] h (fun v h' => v = none ∧ h' = res.2) := by
  obtain ⟨d, rfl, hG⟩ := md_dd hH
  exact ag_met0 (by decide) rfl (ag_v1 rfl (ag_v1 (ag_cat_rf _) (ag_v1 rfl (ag_v1 rfl (ag_v1 rfl ag_v0))))) (Nat.le_of_ble_eq_true rfl) (ag_dr (ag_d1 rfl (ag_d1 rfl (ag_d1 rfl (ag_d1 rfl (ag_d1 rfl ag_d0))))) (w_Jg_bind_0 hC hkR hG hyp))
def fn_Jg_bindR (N : Nat) (C : Nat × Nat) : Nat → Nat → Option Nat → Int32 → Int32 → Int32 → ag_H → Option ((Int32) × ag_H)
  | 0, _, _, _, _, _, _ => none
  | n + 1, a, p1, p2, p3, p4, h => fn_Jg_bind N C (fn_Jg_bindR N C n) a p1 p2 p3 p4 h
theorem w_Jg_bindR {l : Launch} {G : ag_G} {N : Nat} {C : Nat × Nat} (hC : ag_cN G = C.1 ∧ ag_cS G = C.2) : ∀ (n : Nat) (d : Nat), 3 * n ≤ d → ∀ (a : Nat) (p1 : Option Nat) (p2 : Int32) (p3 : Int32) (p4 : Int32) (h : ag_H) (res : (Int32) × ag_H), fn_Jg_bindR N C n a p1 p2 p3 p4 h = some res → ag_Met gc_P l G m_Jg_bind d [.ref a, ag_rf (p1), .int (p2), .int (p3), .int (p4)] h (fun v h' => v = none ∧ h' = res.2)
  | 0, _, _, _, _, _, _, _, _, _, hyp => by cases hyp
  | n + 1, d, hd, a, p1, p2, p3, p4, h, res, hyp => w_Jg_bind (Hk := 3 * n) hC (fun dk hk u0 u1 u2 u3 u4 u5 r hy => w_Jg_bindR hC n dk hk u0 u1 u2 u3 u4 u5 r hy) (by omega) hyp
def fn_Jg_search_23 (N : Nat) (C : Nat × Nat) (a : Nat) (x1 : Option Nat) (x3 : Int32) (s0 : Option Nat) (s1 : Int32) (s2 : Int32) (h : ag_H) : Option ((Int32) × ag_H) := (ag_pf h (ag_rf (s0)) 3 10 .int (.int ((s1) ||| (s2)))).bind fun h2 => (ag_pf h2 (ag_rf (some (a))) 3 11 .boolean (.int (Int32.ofInt 0))).bind fun h5 => (ag_pf h5 (ag_rf (some (a))) 3 12 .boolean (.int (Int32.ofInt 0))).bind fun h8 => (ag_pf h8 (ag_rf (some (a))) 3 13 .boolean (.int (Int32.ofInt 0))).bind fun h11 => (ag_rc h11 (some (a)) 3).bind fun a17 => (fn_Jg_bindR N C 5 a17 (x1) (Int32.ofInt 0) (Int32.ofInt 0) (x3) h11).bind fun r17 => some (0, r17.2)
def fn_Jg_search_0 (N : Nat) (C : Nat × Nat) (a : Nat) (x1 : Option Nat) (x2 : Int32) (h : ag_H) : Option ((Int32) × ag_H) := (ag_gi h (x1) 7 1).bind fun g10 => if (g10) = (0) then (fn_Jg_search_23 N C a (x1) ((Int32.ofInt 1) <<< ((x2) &&& 31)) (some (a)) (((Int8.ofInt (17)).toInt32) ||| ((Int32.ofInt 1) <<< ((x2) &&& 31))) (Int32.ofInt 0) h) else (fn_Jg_search_23 N C a (x1) ((Int32.ofInt 1) <<< ((x2) &&& 31)) (some (a)) (((Int8.ofInt (17)).toInt32) ||| ((Int32.ofInt 1) <<< ((x2) &&& 31))) (((Int32.ofInt 1) <<< ((x2) &&& 31)) - (Int32.ofInt 1)) h)
def fn_Jg_search (N : Nat) (C : Nat × Nat) (a : Nat) (p1 : Option Nat) (p2 : Int32) (h : ag_H) : Option ((Int32) × ag_H) := fn_Jg_search_0 N C a p1 p2 h
theorem w_Jg_search_23 {l : Launch} {G : ag_G} {d N : Nat} {C : Nat × Nat} {a : Nat} (hC : ag_cN G = C.1 ∧ ag_cS G = C.2) (hH : 15 ≤ d) {x1 : Option Nat} {x3 : Int32} {s0 : Option Nat} {s1 : Int32} {s2 : Int32} {h : ag_H} {res : (Int32) × ag_H} (hyp : fn_Jg_search_23 N C a x1 x3 s0 s1 s2 h = some res) : ag_ev gc_P l G m_Jg_search (d + 1) (ag_ret gc_P G (fun v h' => v = none ∧ h' = res.2)) 23 [(0, .ref a), (1, ag_rf (x1)), (3, .int (x3))] [.int (s2), .int (s1), ag_rf (s0)] h := by
  unfold fn_Jg_search_23 at hyp
  have hc : ag_C1 [(0, .ref a), (1, ag_rf (x1)), (3, .int (x3))] := (ag_c1 rfl (ag_c1 (ag_cat_rf _) (ag_c1 rfl ag_c0)))
  refine ag_ior d_Jg_search_23 ?_
  obtain ⟨h2, eh2, hyp⟩ := md_bd hyp
  refine gc_putf (r := (s0)) d_Jg_search_24 fl_Jg_129 (fun q => by cases q) eh2 ?_
  refine gc_aload_n (r := (some (a))) d_Jg_search_27 rfl ?_
  refine ag_iconst d_Jg_search_28 ?_
  obtain ⟨h5, eh5, hyp⟩ := md_bd hyp
  refine gc_putf (r := (some (a))) d_Jg_search_29 fl_Jg_120 (fun q => by cases q) eh5 ?_
  refine gc_aload_n (r := (some (a))) d_Jg_search_32 rfl ?_
  refine ag_iconst d_Jg_search_33 ?_
  obtain ⟨h8, eh8, hyp⟩ := md_bd hyp
  refine gc_putf (r := (some (a))) d_Jg_search_34 fl_Jg_123 (fun q => by cases q) eh8 ?_
  refine gc_aload_n (r := (some (a))) d_Jg_search_37 rfl ?_
  refine ag_iconst d_Jg_search_38 ?_
  obtain ⟨h11, eh11, hyp⟩ := md_bd hyp
  refine gc_putf (r := (some (a))) d_Jg_search_39 fl_Jg_117 (fun q => by cases q) eh11 ?_
  refine gc_aload_n (r := (some (a))) d_Jg_search_42 rfl ?_
  refine gc_aload_n (r := (x1)) d_Jg_search_43 rfl ?_
  refine ag_iconst d_Jg_search_44 ?_
  refine ag_iconst d_Jg_search_45 ?_
  refine ag_iload_n d_Jg_search_46 rfl ?_
  obtain ⟨a17, ea17, hyp⟩ := md_bd hyp
  obtain ⟨r17, er17, hyp⟩ := md_bd hyp
  refine gc_callv (r := (some (a))) (as := [ag_rf (x1), .int (Int32.ofInt 0), .int (Int32.ofInt 0), .int (x3)]) d_Jg_search_47 ml_Jg_132 gw_866 rfl sl_Jg_bind ea17 (Nat.le_of_ble_eq_true rfl) (w_Jg_bindR hC 5 d (by omega) _ _ _ _ _ _ _ er17) (fun v17 h17 q17 => ?_)
  obtain ⟨rfl, rfl⟩ := q17
  cases hyp
  exact ag_vret d_Jg_search_50 rfl ⟨rfl, rfl⟩
theorem w_Jg_search_0 {l : Launch} {G : ag_G} {d N : Nat} {C : Nat × Nat} {a : Nat} (hC : ag_cN G = C.1 ∧ ag_cS G = C.2) (hH : 15 ≤ d) {x1 : Option Nat} {x2 : Int32} {h : ag_H} {res : (Int32) × ag_H} (hyp : fn_Jg_search_0 N C a x1 x2 h = some res) : ag_ev gc_P l G m_Jg_search (d + 1) (ag_ret gc_P G (fun v h' => v = none ∧ h' = res.2)) 0 [(0, .ref a), (1, ag_rf (x1)), (2, .int (x2))] [] h := by
  unfold fn_Jg_search_0 at hyp
  have hc : ag_C1 [(0, .ref a), (1, ag_rf (x1)), (2, .int (x2))] := (ag_c1 rfl (ag_c1 (ag_cat_rf _) (ag_c1 rfl ag_c0)))
  refine ag_iconst d_Jg_search_0 ?_
  refine ag_iload_n d_Jg_search_1 rfl ?_
  refine ag_ishl d_Jg_search_2 ?_
  refine gc_istore_n d_Jg_search_3 (by decide) hc ?_
  replace hc := ag_cs (i := 3) (v := .int ((Int32.ofInt 1) <<< ((x2) &&& 31))) hc rfl
  refine gc_aload_n (r := (some (a))) d_Jg_search_4 rfl ?_
  refine ag_bipush d_Jg_search_5 ?_
  refine ag_iload_n d_Jg_search_7 rfl ?_
  refine ag_ior d_Jg_search_8 ?_
  refine gc_aload_n (r := (x1)) d_Jg_search_9 rfl ?_
  obtain ⟨g10, eg10, hyp⟩ := md_bd hyp
  refine gc_geti (r := (x1)) d_Jg_search_10 fr_Jg_126 eg10 ?_
  refine ag_if_eq d_Jg_search_13 rfl (fun q => ?_) (fun q => ?_)
  · replace hyp := md_ifp q hyp
    refine ag_iconst d_Jg_search_22 ?_
    exact ag_dr (ag_d1 rfl (ag_d1 rfl (ag_d1 rfl ag_d0))) (w_Jg_search_23 hC hH hyp)
  · replace hyp := md_ifn q hyp
    refine ag_iload_n d_Jg_search_16 rfl ?_
    refine ag_iconst d_Jg_search_17 ?_
    refine ag_isub d_Jg_search_18 ?_
    refine ag_goto d_Jg_search_19 rfl ?_
    exact ag_dr (ag_d1 rfl (ag_d1 rfl (ag_d1 rfl ag_d0))) (w_Jg_search_23 hC hH hyp)
theorem w_Jg_search {l : Launch} {G : ag_G} {d N : Nat} {C : Nat × Nat} (hC : ag_cN G = C.1 ∧ ag_cS G = C.2) (hH : 15 + 1 ≤ d) {a : Nat} {p1 : Option Nat} {p2 : Int32} {h : ag_H} {res : (Int32) × ag_H} (hyp : fn_Jg_search N C a p1 p2 h = some res) : ag_Met gc_P l G m_Jg_search d [.ref a, ag_rf (p1), .int (p2)] h (fun v h' => v = none ∧ h' = res.2) := by
  obtain ⟨d, rfl, hG⟩ := md_dd hH
  exact ag_met0 (by decide) rfl (ag_v1 rfl (ag_v1 (ag_cat_rf _) (ag_v1 rfl ag_v0))) (Nat.le_of_ble_eq_true rfl) (ag_dr (ag_d1 rfl (ag_d1 rfl (ag_d1 rfl ag_d0))) (w_Jg_search_0 hC hG hyp))
def fn_Jg_makeRound_86 (N : Nat) (C : Nat × Nat) (a : Nat) (k18 : Int32 → ag_H → Option ((Int32) × ag_H)) (k35 : Int32 → Option Nat → Int32 → ag_H → Option ((Int32) × ag_H)) (x1 : Int32) (x2 : Option Nat) (x3 : Int32) (h : ag_H) : Option ((Int32) × ag_H) := k35 (x1) (x2) ((x3) + Int32.ofInt (1)) h
def fn_Jg_makeRound_35 (N : Nat) (C : Nat × Nat) (a : Nat) (k18 : Int32 → ag_H → Option ((Int32) × ag_H)) : Nat → Int32 → Option Nat → Int32 → ag_H → Option ((Int32) × ag_H)
  | 0, _, _, _, _ => none
  | n + 1, x1, x2, x3, h => (ag_rc h (x2) 11).bind fun a3 => (fn_AL_size N C a3  h).bind fun r3 => if (r3.1) ≤ (x3) then (k18 ((x1) + Int32.ofInt (1)) r3.2) else ((ag_rc r3.2 (x2) 11).bind fun a9 => (fn_AL_get N C a9 (x3) r3.2).bind fun r9 => if ag_ck r9.2 (r9.1) 7 = true then ((ag_gi r9.2 ((r9.1)) 7 0).bind fun g13 => if (g13) = (Int32.ofInt 1) then ((ag_rc r9.2 (some (a)) 3).bind fun a19 => (fn_Jg_search N C a19 ((r9.1)) (x1) r9.2).bind fun r19 => (ag_gi r19.2 (some (a)) 3 9).bind fun g22 => (ag_gi r19.2 (some (a)) 3 13).bind fun g24 => (ag_pf r19.2 (ag_rf (some (a))) 3 9 .boolean (.int ((g22) ||| (g24)))).bind fun h26 => fn_Jg_makeRound_86 N C a k18 (fn_Jg_makeRound_35 N C a k18 n) (x1) (x2) (x3) h26) else (fn_Jg_makeRound_86 N C a k18 (fn_Jg_makeRound_35 N C a k18 n) (x1) (x2) (x3) r9.2)) else none)
theorem fe_Jg_makeRound_35 (N : Nat) (C : Nat × Nat) (a : Nat) (k18 : Int32 → ag_H → Option ((Int32) × ag_H)) (n : Nat) (x1 : Int32) (x2 : Option Nat) (x3 : Int32) (h : ag_H) : fn_Jg_makeRound_35 N C a k18 (n + 1) x1 x2 x3 h = ((ag_rc h (x2) 11).bind fun a3 => (fn_AL_size N C a3  h).bind fun r3 => if (r3.1) ≤ (x3) then (k18 ((x1) + Int32.ofInt (1)) r3.2) else ((ag_rc r3.2 (x2) 11).bind fun a9 => (fn_AL_get N C a9 (x3) r3.2).bind fun r9 => if ag_ck r9.2 (r9.1) 7 = true then ((ag_gi r9.2 ((r9.1)) 7 0).bind fun g13 => if (g13) = (Int32.ofInt 1) then ((ag_rc r9.2 (some (a)) 3).bind fun a19 => (fn_Jg_search N C a19 ((r9.1)) (x1) r9.2).bind fun r19 => (ag_gi r19.2 (some (a)) 3 9).bind fun g22 => (ag_gi r19.2 (some (a)) 3 13).bind fun g24 => (ag_pf r19.2 (ag_rf (some (a))) 3 9 .boolean (.int ((g22) ||| (g24)))).bind fun h26 => fn_Jg_makeRound_86 N C a k18 (fn_Jg_makeRound_35 N C a k18 n) (x1) (x2) (x3) h26) else (fn_Jg_makeRound_86 N C a k18 (fn_Jg_makeRound_35 N C a k18 n) (x1) (x2) (x3) r9.2)) else none)) := rfl
def fn_Jg_makeRound_18 (N : Nat) (C : Nat × Nat) (a : Nat) : Nat → Int32 → ag_H → Option ((Int32) × ag_H)
  | 0, _, _ => none
  | n + 1, x1, h => if (Int32.ofInt 5) ≤ (x1) then (some (0, h)) else ((ag_gr h (some (a)) 3 2).bind fun g6 => (ag_ao h (g6)).bind fun p8 => if md_in (x1) p8.1 = true then ((ag_gr h (p8.2 (x1).toNatClampNeg) 5 0).bind fun g9 => fn_Jg_makeRound_35 N C a (fn_Jg_makeRound_18 N C a n) N (x1) ((g9)) (Int32.ofInt 0) h) else none)
theorem fe_Jg_makeRound_18 (N : Nat) (C : Nat × Nat) (a : Nat) (n : Nat) (x1 : Int32) (h : ag_H) : fn_Jg_makeRound_18 N C a (n + 1) x1 h = (if (Int32.ofInt 5) ≤ (x1) then (some (0, h)) else ((ag_gr h (some (a)) 3 2).bind fun g6 => (ag_ao h (g6)).bind fun p8 => if md_in (x1) p8.1 = true then ((ag_gr h (p8.2 (x1).toNatClampNeg) 5 0).bind fun g9 => fn_Jg_makeRound_35 N C a (fn_Jg_makeRound_18 N C a n) N (x1) ((g9)) (Int32.ofInt 0) h) else none)) := rfl
def fn_Jg_makeRound_0 (N : Nat) (C : Nat × Nat) (a : Nat) (h : ag_H) : Option ((Int32) × ag_H) := (ag_gr h (some (a)) 3 0).bind fun g3 => (ag_gi h (g3) 4 1).bind fun g4 => (ag_pf h (ag_rf (some (a))) 3 8 .int (.int (g4))).bind fun h5 => (ag_pf h5 (ag_rf (some (a))) 3 9 .boolean (.int (Int32.ofInt 0))).bind fun h8 => fn_Jg_makeRound_18 N C a N (Int32.ofInt 0) h8
def fn_Jg_makeRound (N : Nat) (C : Nat × Nat) (a : Nat) (h : ag_H) : Option ((Int32) × ag_H) := fn_Jg_makeRound_0 N C a h
theorem w_Jg_makeRound_86 {l : Launch} {G : ag_G} {d N : Nat} {C : Nat × Nat} {a : Nat} (hC : ag_cN G = C.1 ∧ ag_cS G = C.2) (hH : 16 ≤ d) {k18 : Int32 → ag_H → Option ((Int32) × ag_H)} {k35 : Int32 → Option Nat → Int32 → ag_H → Option ((Int32) × ag_H)} (hk18 : ∀ (res : (Int32) × ag_H) (y1 : Int32) (hh : ag_H), k18 y1 hh = some res → ag_ev gc_P l G m_Jg_makeRound (d + 1) (ag_ret gc_P G (fun v h' => v = none ∧ h' = res.2)) 18 [(0, .ref a), (1, .int (y1))] [] hh) (hk35 : ∀ (res : (Int32) × ag_H) (y1 : Int32) (y2 : Option Nat) (y3 : Int32) (hh : ag_H), k35 y1 y2 y3 hh = some res → ag_ev gc_P l G m_Jg_makeRound (d + 1) (ag_ret gc_P G (fun v h' => v = none ∧ h' = res.2)) 35 [(0, .ref a), (1, .int (y1)), (2, ag_rf (y2)), (3, .int (y3))] [] hh) {x1 : Int32} {x2 : Option Nat} {x3 : Int32} {h : ag_H} {res : (Int32) × ag_H} (hyp : fn_Jg_makeRound_86 N C a k18 k35 x1 x2 x3 h = some res) : ag_ev gc_P l G m_Jg_makeRound (d + 1) (ag_ret gc_P G (fun v h' => v = none ∧ h' = res.2)) 86 [(0, .ref a), (1, .int (x1)), (2, ag_rf (x2)), (3, .int (x3))] [] h := by
  unfold fn_Jg_makeRound_86 at hyp
  have hc : ag_C1 [(0, .ref a), (1, .int (x1)), (2, ag_rf (x2)), (3, .int (x3))] := (ag_c1 rfl (ag_c1 rfl (ag_c1 (ag_cat_rf _) (ag_c1 rfl ag_c0))))
  refine gc_iinc d_Jg_makeRound_86 rfl (by decide) hc ?_
  replace hc := ag_cs (i := 3) (v := .int ((x3) + Int32.ofInt (1))) hc rfl
  refine ag_goto d_Jg_makeRound_89 rfl ?_
  exact ag_dr (ag_d1 rfl (ag_d1 rfl (ag_d1 rfl (ag_d1 rfl ag_d0)))) (hk35 _ _ _ _ _ hyp)
theorem w_Jg_makeRound_35 {l : Launch} {G : ag_G} {d N : Nat} {C : Nat × Nat} {a : Nat} (hC : ag_cN G = C.1 ∧ ag_cS G = C.2) (hH : 16 ≤ d) {k18 : Int32 → ag_H → Option ((Int32) × ag_H)} (hk18 : ∀ (res : (Int32) × ag_H) (y1 : Int32) (hh : ag_H), k18 y1 hh = some res → ag_ev gc_P l G m_Jg_makeRound (d + 1) (ag_ret gc_P G (fun v h' => v = none ∧ h' = res.2)) 18 [(0, .ref a), (1, .int (y1))] [] hh) : ∀ (n : Nat) (res : (Int32) × ag_H) (x1 : Int32) (x2 : Option Nat) (x3 : Int32) (h : ag_H) , fn_Jg_makeRound_35 N C a k18 n x1 x2 x3 h = some res → ag_ev gc_P l G m_Jg_makeRound (d + 1) (ag_ret gc_P G (fun v h' => v = none ∧ h' = res.2)) 35 [(0, .ref a), (1, .int (x1)), (2, ag_rf (x2)), (3, .int (x3))] [] h := by
  intro n
  induction n with
  | zero =>
    intro res x1 x2 x3 h hyp
    cases hyp
  | succ n ih =>
    intro res x1 x2 x3 h hyp
    rw [fe_Jg_makeRound_35] at hyp
    have hc : ag_C1 [(0, .ref a), (1, .int (x1)), (2, ag_rf (x2)), (3, .int (x3))] := (ag_c1 rfl (ag_c1 rfl (ag_c1 (ag_cat_rf _) (ag_c1 rfl ag_c0))))
    refine ag_iload_n d_Jg_makeRound_35 rfl ?_
    refine gc_aload_n (r := (x2)) d_Jg_makeRound_36 rfl ?_
    obtain ⟨a3, ea3, hyp⟩ := md_bd hyp
    obtain ⟨r3, er3, hyp⟩ := md_bd hyp
    refine gc_callf (r := (x2)) (as := []) d_Jg_makeRound_37 il_Jg_84 ea3 (Nat.le_of_ble_eq_true rfl) (w_AL_size hC (d := d) (by omega) er3) (fun v3 h3 q3 => ?_)
    obtain ⟨rfl, rfl⟩ := q3
    refine ag_icmp_ge d_Jg_makeRound_42 rfl (fun q => ?_) (fun q => ?_)
    · replace hyp := md_ifp q hyp
      refine gc_iinc d_Jg_makeRound_92 rfl (by decide) hc ?_
      replace hc := ag_cs (i := 1) (v := .int ((x1) + Int32.ofInt (1))) hc rfl
      refine ag_goto d_Jg_makeRound_95 rfl ?_
      exact ag_dr (ag_d1 rfl (ag_d1 rfl ag_d0)) (hk18 _ _ _ hyp)
    · replace hyp := md_ifn q hyp
      refine gc_aload_n (r := (x2)) d_Jg_makeRound_45 rfl ?_
      refine ag_iload_n d_Jg_makeRound_46 rfl ?_
      obtain ⟨a9, ea9, hyp⟩ := md_bd hyp
      obtain ⟨r9, er9, hyp⟩ := md_bd hyp
      refine gc_callf (r := (x2)) (as := [.int (x3)]) d_Jg_makeRound_47 il_Jg_88 ea9 (Nat.le_of_ble_eq_true rfl) (w_AL_get hC (d := d) (by omega) er9) (fun v9 h9 q9 => ?_)
      obtain ⟨rfl, rfl⟩ := q9
      obtain ⟨q10, hyp⟩ := md_ifs hyp
      refine gc_cast (r := (r9.1)) d_Jg_makeRound_52 gw_851 rfl q10 ?_
      refine gc_astore0 (r := (r9.1)) d_Jg_makeRound_55 (by decide) hc ?_
      replace hc := ag_cs (i := 4) (v := ag_rf (r9.1)) hc (ag_cat_rf _)
      refine gc_aload (r := ((r9.1))) d_Jg_makeRound_57 rfl ?_
      obtain ⟨g13, eg13, hyp⟩ := md_bd hyp
      refine gc_geti (r := ((r9.1))) d_Jg_makeRound_59 fr_Jg_94 eg13 ?_
      refine ag_iconst d_Jg_makeRound_62 ?_
      refine ag_icmp_ne d_Jg_makeRound_63 rfl (fun q => ?_) (fun q => ?_)
      · replace hyp := md_ifn q hyp
        exact ag_dr (ag_d1 rfl (ag_d1 rfl (ag_d1 rfl (ag_d1 rfl ag_d0)))) (w_Jg_makeRound_86 hC hH hk18 ih hyp)
      · replace hyp := md_ifp q hyp
        refine gc_aload_n (r := (some (a))) d_Jg_makeRound_66 rfl ?_
        refine gc_aload (r := ((r9.1))) d_Jg_makeRound_67 rfl ?_
        refine ag_iload_n d_Jg_makeRound_69 rfl ?_
        obtain ⟨a19, ea19, hyp⟩ := md_bd hyp
        obtain ⟨r19, er19, hyp⟩ := md_bd hyp
        refine gc_callv (r := (some (a))) (as := [ag_rf ((r9.1)), .int (x1)]) d_Jg_makeRound_70 ml_Jg_113 gw_862 rfl sl_Jg_search ea19 (Nat.le_of_ble_eq_true rfl) (w_Jg_search hC (d := d) (by omega) er19) (fun v19 h19 q19 => ?_)
        obtain ⟨rfl, rfl⟩ := q19
        refine gc_aload_n (r := (some (a))) d_Jg_makeRound_73 rfl ?_
        refine ag_dup d_Jg_makeRound_74 rfl ?_
        obtain ⟨g22, eg22, hyp⟩ := md_bd hyp
        refine gc_geti (r := (some (a))) d_Jg_makeRound_75 fr_Jg_69 eg22 ?_
        refine gc_aload_n (r := (some (a))) d_Jg_makeRound_78 rfl ?_
        obtain ⟨g24, eg24, hyp⟩ := md_bd hyp
        refine gc_geti (r := (some (a))) d_Jg_makeRound_79 fr_Jg_117 eg24 ?_
        refine ag_ior d_Jg_makeRound_82 ?_
        obtain ⟨h26, eh26, hyp⟩ := md_bd hyp
        refine gc_putf (r := (some (a))) d_Jg_makeRound_83 fl_Jg_69 (fun q => by cases q) eh26 ?_
        exact ag_dr (ag_d1 rfl (ag_d1 rfl (ag_d1 rfl (ag_d1 rfl ag_d0)))) (w_Jg_makeRound_86 hC hH hk18 ih hyp)
theorem w_Jg_makeRound_18 {l : Launch} {G : ag_G} {d N : Nat} {C : Nat × Nat} {a : Nat} (hC : ag_cN G = C.1 ∧ ag_cS G = C.2) (hH : 16 ≤ d) : ∀ (n : Nat) (res : (Int32) × ag_H) (x1 : Int32) (h : ag_H) , fn_Jg_makeRound_18 N C a n x1 h = some res → ag_ev gc_P l G m_Jg_makeRound (d + 1) (ag_ret gc_P G (fun v h' => v = none ∧ h' = res.2)) 18 [(0, .ref a), (1, .int (x1))] [] h := by
  intro n
  induction n with
  | zero =>
    intro res x1 h hyp
    cases hyp
  | succ n ih =>
    intro res x1 h hyp
    rw [fe_Jg_makeRound_18] at hyp
    have hc : ag_C1 [(0, .ref a), (1, .int (x1))] := (ag_c1 rfl (ag_c1 rfl ag_c0))
    refine ag_iload_n d_Jg_makeRound_18 rfl ?_
    refine ag_iconst d_Jg_makeRound_19 ?_
    refine ag_icmp_ge d_Jg_makeRound_20 rfl (fun q => ?_) (fun q => ?_)
    · replace hyp := md_ifp q hyp
      cases hyp
      exact ag_vret d_Jg_makeRound_98 rfl ⟨rfl, rfl⟩
    · replace hyp := md_ifn q hyp
      refine gc_aload_n (r := (some (a))) d_Jg_makeRound_23 rfl ?_
      obtain ⟨g6, eg6, hyp⟩ := md_bd hyp
      refine gc_getr (r := (some (a))) d_Jg_makeRound_24 fr_Jg_25 eg6 ?_
      refine ag_iload_n d_Jg_makeRound_27 rfl ?_
      obtain ⟨p8, ep8, hyp⟩ := md_bd hyp
      obtain ⟨q8, hyp⟩ := md_ifs hyp
      refine gc_ald (r := (g6)) d_Jg_makeRound_28 ep8 q8 ?_
      obtain ⟨g9, eg9, hyp⟩ := md_bd hyp
      refine gc_getr (r := (p8.2 (x1).toNatClampNeg)) d_Jg_makeRound_29 fr_Jg_80 eg9 ?_
      refine gc_astore0_n (r := (g9)) d_Jg_makeRound_32 (by decide) hc ?_
      replace hc := ag_cs (i := 2) (v := ag_rf (g9)) hc (ag_cat_rf _)
      refine ag_iconst d_Jg_makeRound_33 ?_
      refine gc_istore_n d_Jg_makeRound_34 (by decide) hc ?_
      replace hc := ag_cs (i := 3) (v := .int (Int32.ofInt 0)) hc rfl
      exact ag_dr (ag_d1 rfl (ag_d1 rfl (ag_d1 rfl (ag_d1 rfl ag_d0)))) (w_Jg_makeRound_35 hC hH ih N _ _ _ _ _ hyp)
theorem w_Jg_makeRound_0 {l : Launch} {G : ag_G} {d N : Nat} {C : Nat × Nat} {a : Nat} (hC : ag_cN G = C.1 ∧ ag_cS G = C.2) (hH : 16 ≤ d) {h : ag_H} {res : (Int32) × ag_H} (hyp : fn_Jg_makeRound_0 N C a h = some res) : ag_ev gc_P l G m_Jg_makeRound (d + 1) (ag_ret gc_P G (fun v h' => v = none ∧ h' = res.2)) 0 [(0, .ref a)] [] h := by
  unfold fn_Jg_makeRound_0 at hyp
  have hc : ag_C1 [(0, .ref a)] := (ag_c1 rfl ag_c0)
  refine gc_aload_n (r := (some (a))) d_Jg_makeRound_0 rfl ?_
  refine gc_aload_n (r := (some (a))) d_Jg_makeRound_1 rfl ?_
  obtain ⟨g3, eg3, hyp⟩ := md_bd hyp
  refine gc_getr (r := (some (a))) d_Jg_makeRound_2 fr_Jg_14 eg3 ?_
  obtain ⟨g4, eg4, hyp⟩ := md_bd hyp
  refine gc_geti (r := (g3)) d_Jg_makeRound_5 fr_Jg_47 eg4 ?_
  obtain ⟨h5, eh5, hyp⟩ := md_bd hyp
  refine gc_putf (r := (some (a))) d_Jg_makeRound_8 fl_Jg_66 (fun q => by cases q) eh5 ?_
  refine gc_aload_n (r := (some (a))) d_Jg_makeRound_11 rfl ?_
  refine ag_iconst d_Jg_makeRound_12 ?_
  obtain ⟨h8, eh8, hyp⟩ := md_bd hyp
  refine gc_putf (r := (some (a))) d_Jg_makeRound_13 fl_Jg_69 (fun q => by cases q) eh8 ?_
  refine ag_iconst d_Jg_makeRound_16 ?_
  refine gc_istore_n d_Jg_makeRound_17 (by decide) hc ?_
  replace hc := ag_cs (i := 1) (v := .int (Int32.ofInt 0)) hc rfl
  exact ag_dr (ag_d1 rfl (ag_d1 rfl ag_d0)) (w_Jg_makeRound_18 hC hH N _ _ _ hyp)
theorem w_Jg_makeRound {l : Launch} {G : ag_G} {d N : Nat} {C : Nat × Nat} (hC : ag_cN G = C.1 ∧ ag_cS G = C.2) (hH : 16 + 1 ≤ d) {a : Nat} {h : ag_H} {res : (Int32) × ag_H} (hyp : fn_Jg_makeRound N C a h = some res) : ag_Met gc_P l G m_Jg_makeRound d [.ref a] h (fun v h' => v = none ∧ h' = res.2) := by
  obtain ⟨d, rfl, hG⟩ := md_dd hH
  exact ag_met (by decide) rfl (Nat.le_of_ble_eq_true rfl) (ag_dr (ag_d1 rfl ag_d0) (w_Jg_makeRound_0 hC hG hyp))
def fn_Jg_settle_67 (N : Nat) (C : Nat × Nat) (a : Nat) (h : ag_H) : Option ((Int32) × ag_H) := if md_01 (Int32.ofInt 0) = true then (some ((Int32.ofInt 0), h)) else none
def fn_Jg_settle_61 (N : Nat) (C : Nat × Nat) (a : Nat) (k6 : Int32 → Int32 → ag_H → Option ((Int32) × ag_H)) (x1 : Int32) (x2 : Int32) (h : ag_H) : Option ((Int32) × ag_H) := k6 (x1) ((x2) + Int32.ofInt (1)) h
def fn_Jg_settle_6 (N : Nat) (C : Nat × Nat) (a : Nat) : Nat → Int32 → Int32 → ag_H → Option ((Int32) × ag_H)
  | 0, _, _, _ => none
  | n + 1, x1, x2, h => if (x1) ≤ (x2) then (fn_Jg_settle_67 N C a  h) else ((ag_gr h (some (a)) 3 0).bind fun g5 => (ag_gi h (g5) 4 2).bind fun g6 => if (g6) = (0) then ((ag_rc h (some (a)) 3).bind fun a9 => (fn_Jg_makeRound N C a9  h).bind fun r9 => (ag_gi r9.2 (some (a)) 3 4).bind fun g12 => (ag_pf r9.2 (ag_rf (some (a))) 3 4 .int (.int ((g12) + (Int32.ofInt 1)))).bind fun h15 => (ag_gr h15 (some (a)) 3 0).bind fun g17 => (ag_gi h15 (g17) 4 1).bind fun g18 => (ag_gi h15 (some (a)) 3 8).bind fun g20 => if (g18) = (g20) then ((ag_gr h15 (some (a)) 3 0).bind fun g23 => (ag_gi h15 (g23) 4 2).bind fun g24 => if (g24) = (0) then (if md_01 (Int32.ofInt 1) = true then (some ((Int32.ofInt 1), h15)) else none) else (fn_Jg_settle_61 N C a (fn_Jg_settle_6 N C a n) (x1) (x2) h15)) else (fn_Jg_settle_61 N C a (fn_Jg_settle_6 N C a n) (x1) (x2) h15)) else (fn_Jg_settle_67 N C a  h))
theorem fe_Jg_settle_6 (N : Nat) (C : Nat × Nat) (a : Nat) (n : Nat) (x1 : Int32) (x2 : Int32) (h : ag_H) : fn_Jg_settle_6 N C a (n + 1) x1 x2 h = (if (x1) ≤ (x2) then (fn_Jg_settle_67 N C a  h) else ((ag_gr h (some (a)) 3 0).bind fun g5 => (ag_gi h (g5) 4 2).bind fun g6 => if (g6) = (0) then ((ag_rc h (some (a)) 3).bind fun a9 => (fn_Jg_makeRound N C a9  h).bind fun r9 => (ag_gi r9.2 (some (a)) 3 4).bind fun g12 => (ag_pf r9.2 (ag_rf (some (a))) 3 4 .int (.int ((g12) + (Int32.ofInt 1)))).bind fun h15 => (ag_gr h15 (some (a)) 3 0).bind fun g17 => (ag_gi h15 (g17) 4 1).bind fun g18 => (ag_gi h15 (some (a)) 3 8).bind fun g20 => if (g18) = (g20) then ((ag_gr h15 (some (a)) 3 0).bind fun g23 => (ag_gi h15 (g23) 4 2).bind fun g24 => if (g24) = (0) then (if md_01 (Int32.ofInt 1) = true then (some ((Int32.ofInt 1), h15)) else none) else (fn_Jg_settle_61 N C a (fn_Jg_settle_6 N C a n) (x1) (x2) h15)) else (fn_Jg_settle_61 N C a (fn_Jg_settle_6 N C a n) (x1) (x2) h15)) else (fn_Jg_settle_67 N C a  h))) := rfl
def fn_Jg_settle_0 (N : Nat) (C : Nat × Nat) (a : Nat) (x1 : Int32) (h : ag_H) : Option ((Int32) × ag_H) := (ag_rc h (some (a)) 3).bind fun a2 => (fn_Jg_layFacts N C a2  h).bind fun r2 => fn_Jg_settle_6 N C a N (x1) (Int32.ofInt 0) r2.2
def fn_Jg_settle (N : Nat) (C : Nat × Nat) (a : Nat) (p1 : Int32) (h : ag_H) : Option ((Int32) × ag_H) := fn_Jg_settle_0 N C a p1 h
theorem w_Jg_settle_67 {l : Launch} {G : ag_G} {d N : Nat} {C : Nat × Nat} {a : Nat} (hC : ag_cN G = C.1 ∧ ag_cS G = C.2) (hH : 17 ≤ d) {h : ag_H} {res : (Int32) × ag_H} (hyp : fn_Jg_settle_67 N C a h = some res) : ag_ev gc_P l G m_Jg_settle (d + 1) (ag_ret gc_P G (fun v h' => v = some (.int res.1) ∧ h' = res.2)) 67 [(0, .ref a)] [] h := by
  unfold fn_Jg_settle_67 at hyp
  have hc : ag_C1 [(0, .ref a)] := (ag_c1 rfl ag_c0)
  refine ag_iconst d_Jg_settle_67 ?_
  obtain ⟨q2, hyp⟩ := md_ifs hyp
  cases hyp
  exact ag_iret d_Jg_settle_68 rfl (md_01n q2) ⟨rfl, rfl⟩
theorem w_Jg_settle_61 {l : Launch} {G : ag_G} {d N : Nat} {C : Nat × Nat} {a : Nat} (hC : ag_cN G = C.1 ∧ ag_cS G = C.2) (hH : 17 ≤ d) {k6 : Int32 → Int32 → ag_H → Option ((Int32) × ag_H)} (hk6 : ∀ (res : (Int32) × ag_H) (y1 : Int32) (y2 : Int32) (hh : ag_H), k6 y1 y2 hh = some res → ag_ev gc_P l G m_Jg_settle (d + 1) (ag_ret gc_P G (fun v h' => v = some (.int res.1) ∧ h' = res.2)) 6 [(0, .ref a), (1, .int (y1)), (2, .int (y2))] [] hh) {x1 : Int32} {x2 : Int32} {h : ag_H} {res : (Int32) × ag_H} (hyp : fn_Jg_settle_61 N C a k6 x1 x2 h = some res) : ag_ev gc_P l G m_Jg_settle (d + 1) (ag_ret gc_P G (fun v h' => v = some (.int res.1) ∧ h' = res.2)) 61 [(0, .ref a), (1, .int (x1)), (2, .int (x2))] [] h := by
  unfold fn_Jg_settle_61 at hyp
  have hc : ag_C1 [(0, .ref a), (1, .int (x1)), (2, .int (x2))] := (ag_c1 rfl (ag_c1 rfl (ag_c1 rfl ag_c0)))
  refine gc_iinc d_Jg_settle_61 rfl (by decide) hc ?_
  replace hc := ag_cs (i := 2) (v := .int ((x2) + Int32.ofInt (1))) hc rfl
  refine ag_goto d_Jg_settle_64 rfl ?_
  exact ag_dr (ag_d1 rfl (ag_d1 rfl (ag_d1 rfl ag_d0))) (hk6 _ _ _ _ hyp)
theorem w_Jg_settle_6 {l : Launch} {G : ag_G} {d N : Nat} {C : Nat × Nat} {a : Nat} (hC : ag_cN G = C.1 ∧ ag_cS G = C.2) (hH : 17 ≤ d) : ∀ (n : Nat) (res : (Int32) × ag_H) (x1 : Int32) (x2 : Int32) (h : ag_H) , fn_Jg_settle_6 N C a n x1 x2 h = some res → ag_ev gc_P l G m_Jg_settle (d + 1) (ag_ret gc_P G (fun v h' => v = some (.int res.1) ∧ h' = res.2)) 6 [(0, .ref a), (1, .int (x1)), (2, .int (x2))] [] h := by
  intro n
  induction n with
  | zero =>
    intro res x1 x2 h hyp
    cases hyp
  | succ n ih =>
    intro res x1 x2 h hyp
    rw [fe_Jg_settle_6] at hyp
    have hc : ag_C1 [(0, .ref a), (1, .int (x1)), (2, .int (x2))] := (ag_c1 rfl (ag_c1 rfl (ag_c1 rfl ag_c0)))
    refine ag_iload_n d_Jg_settle_6 rfl ?_
    refine ag_iload_n d_Jg_settle_7 rfl ?_
    refine ag_icmp_ge d_Jg_settle_8 rfl (fun q => ?_) (fun q => ?_)
    · replace hyp := md_ifp q hyp
      exact ag_dr (ag_d1 rfl ag_d0) (w_Jg_settle_67 hC hH hyp)
    · replace hyp := md_ifn q hyp
      refine gc_aload_n (r := (some (a))) d_Jg_settle_11 rfl ?_
      obtain ⟨g5, eg5, hyp⟩ := md_bd hyp
      refine gc_getr (r := (some (a))) d_Jg_settle_12 fr_Jg_14 eg5 ?_
      obtain ⟨g6, eg6, hyp⟩ := md_bd hyp
      refine gc_geti (r := (g5)) d_Jg_settle_15 fr_Jg_59 eg6 ?_
      refine ag_if_ne d_Jg_settle_18 rfl (fun q => ?_) (fun q => ?_)
      · replace hyp := md_ifn q hyp
        exact ag_dr (ag_d1 rfl ag_d0) (w_Jg_settle_67 hC hH hyp)
      · replace hyp := md_ifp q hyp
        refine gc_aload_n (r := (some (a))) d_Jg_settle_21 rfl ?_
        obtain ⟨a9, ea9, hyp⟩ := md_bd hyp
        obtain ⟨r9, er9, hyp⟩ := md_bd hyp
        refine gc_callv (r := (some (a))) (as := []) d_Jg_settle_22 ml_Jg_63 gw_858 rfl sl_Jg_makeRound ea9 (Nat.le_of_ble_eq_true rfl) (w_Jg_makeRound hC (d := d) (by omega) er9) (fun v9 h9 q9 => ?_)
        obtain ⟨rfl, rfl⟩ := q9
        refine gc_aload_n (r := (some (a))) d_Jg_settle_25 rfl ?_
        refine ag_dup d_Jg_settle_26 rfl ?_
        obtain ⟨g12, eg12, hyp⟩ := md_bd hyp
        refine gc_geti (r := (some (a))) d_Jg_settle_27 fr_Jg_40 eg12 ?_
        refine ag_iconst d_Jg_settle_30 ?_
        refine ag_iadd d_Jg_settle_31 ?_
        obtain ⟨h15, eh15, hyp⟩ := md_bd hyp
        refine gc_putf (r := (some (a))) d_Jg_settle_32 fl_Jg_40 (fun q => by cases q) eh15 ?_
        refine gc_aload_n (r := (some (a))) d_Jg_settle_35 rfl ?_
        obtain ⟨g17, eg17, hyp⟩ := md_bd hyp
        refine gc_getr (r := (some (a))) d_Jg_settle_36 fr_Jg_14 eg17 ?_
        obtain ⟨g18, eg18, hyp⟩ := md_bd hyp
        refine gc_geti (r := (g17)) d_Jg_settle_39 fr_Jg_47 eg18 ?_
        refine gc_aload_n (r := (some (a))) d_Jg_settle_42 rfl ?_
        obtain ⟨g20, eg20, hyp⟩ := md_bd hyp
        refine gc_geti (r := (some (a))) d_Jg_settle_43 fr_Jg_66 eg20 ?_
        refine ag_icmp_ne d_Jg_settle_46 rfl (fun q => ?_) (fun q => ?_)
        · replace hyp := md_ifn q hyp
          exact ag_dr (ag_d1 rfl (ag_d1 rfl (ag_d1 rfl ag_d0))) (w_Jg_settle_61 hC hH ih hyp)
        · replace hyp := md_ifp q hyp
          refine gc_aload_n (r := (some (a))) d_Jg_settle_49 rfl ?_
          obtain ⟨g23, eg23, hyp⟩ := md_bd hyp
          refine gc_getr (r := (some (a))) d_Jg_settle_50 fr_Jg_14 eg23 ?_
          obtain ⟨g24, eg24, hyp⟩ := md_bd hyp
          refine gc_geti (r := (g23)) d_Jg_settle_53 fr_Jg_59 eg24 ?_
          refine ag_if_ne d_Jg_settle_56 rfl (fun q => ?_) (fun q => ?_)
          · replace hyp := md_ifn q hyp
            exact ag_dr (ag_d1 rfl (ag_d1 rfl (ag_d1 rfl ag_d0))) (w_Jg_settle_61 hC hH ih hyp)
          · replace hyp := md_ifp q hyp
            refine ag_iconst d_Jg_settle_59 ?_
            obtain ⟨q27, hyp⟩ := md_ifs hyp
            cases hyp
            exact ag_iret d_Jg_settle_60 rfl (md_01n q27) ⟨rfl, rfl⟩
theorem w_Jg_settle_0 {l : Launch} {G : ag_G} {d N : Nat} {C : Nat × Nat} {a : Nat} (hC : ag_cN G = C.1 ∧ ag_cS G = C.2) (hH : 17 ≤ d) {x1 : Int32} {h : ag_H} {res : (Int32) × ag_H} (hyp : fn_Jg_settle_0 N C a x1 h = some res) : ag_ev gc_P l G m_Jg_settle (d + 1) (ag_ret gc_P G (fun v h' => v = some (.int res.1) ∧ h' = res.2)) 0 [(0, .ref a), (1, .int (x1))] [] h := by
  unfold fn_Jg_settle_0 at hyp
  have hc : ag_C1 [(0, .ref a), (1, .int (x1))] := (ag_c1 rfl (ag_c1 rfl ag_c0))
  refine gc_aload_n (r := (some (a))) d_Jg_settle_0 rfl ?_
  obtain ⟨a2, ea2, hyp⟩ := md_bd hyp
  obtain ⟨r2, er2, hyp⟩ := md_bd hyp
  refine gc_callv (r := (some (a))) (as := []) d_Jg_settle_1 ml_Jg_56 gw_845 rfl sl_Jg_layFacts ea2 (Nat.le_of_ble_eq_true rfl) (w_Jg_layFacts hC (d := d) (by omega) er2) (fun v2 h2 q2 => ?_)
  obtain ⟨rfl, rfl⟩ := q2
  refine ag_iconst d_Jg_settle_4 ?_
  refine gc_istore_n d_Jg_settle_5 (by decide) hc ?_
  replace hc := ag_cs (i := 2) (v := .int (Int32.ofInt 0)) hc rfl
  exact ag_dr (ag_d1 rfl (ag_d1 rfl (ag_d1 rfl ag_d0))) (w_Jg_settle_6 hC hH N _ _ _ _ hyp)
theorem w_Jg_settle {l : Launch} {G : ag_G} {d N : Nat} {C : Nat × Nat} (hC : ag_cN G = C.1 ∧ ag_cS G = C.2) (hH : 17 + 1 ≤ d) {a : Nat} {p1 : Int32} {h : ag_H} {res : (Int32) × ag_H} (hyp : fn_Jg_settle N C a p1 h = some res) : ag_Met gc_P l G m_Jg_settle d [.ref a, .int (p1)] h (fun v h' => v = some (.int res.1) ∧ h' = res.2) := by
  obtain ⟨d, rfl, hG⟩ := md_dd hH
  exact ag_met (by decide) rfl (Nat.le_of_ble_eq_true rfl) (ag_dr (ag_d1 rfl (ag_d1 rfl ag_d0)) (w_Jg_settle_0 hC hG hyp))
