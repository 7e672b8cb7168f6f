/-! Rd_readFactor, Ln_isAtLastStar, Rd_readProduct, Rd_readSum, GC_isComparison, Rd_readComparison, Rd_readBody, Ar_copyOf3, Cl_init -/
def fn_Rd_readFactor_129 (N : Nat) (C : Nat × Nat) (kR : Nat → Option Nat → Int32 → ag_H → Option ((Int32) × ag_H)) (a : Nat) (s0 : Int32) (h : ag_H) : Option ((Int32) × ag_H) := if md_01 (s0) = true then (some ((s0), h)) else none
def fn_Rd_readFactor_128 (N : Nat) (C : Nat × Nat) (kR : Nat → Option Nat → Int32 → ag_H → Option ((Int32) × ag_H)) (a : Nat) (h : ag_H) : Option ((Int32) × ag_H) := fn_Rd_readFactor_129 N C kR a (Int32.ofInt 0) h
def fn_Rd_readFactor_46 (N : Nat) (C : Nat × Nat) (kR : Nat → Option Nat → Int32 → ag_H → Option ((Int32) × ag_H)) (a : Nat) (h : ag_H) : Option ((Int32) × ag_H) := if md_01 (Int32.ofInt 0) = true then (some ((Int32.ofInt 0), h)) else none
def fn_Rd_readFactor_0 (N : Nat) (C : Nat × Nat) (kR : Nat → Option Nat → Int32 → ag_H → Option ((Int32) × ag_H)) (a : Nat) (x1 : Option Nat) (x2 : Int32) (h : ag_H) : Option ((Int32) × ag_H) := (ag_rc h (x1) 1).bind fun a2 => (fn_Ln_sign N C a2  h).bind fun r2 => if (r2.1) = ((Int8.ofInt (40)).toInt32) then ((ag_gi r2.2 (x1) 1 2).bind fun g47 => (ag_pf r2.2 (ag_rf (x1)) 1 2 .int (.int ((g47) + (Int32.ofInt 1)))).bind fun h50 => if (Int32.ofInt 4) ≤ (x2) then (fn_Rd_readFactor_46 N C kR a  h50) else ((ag_rc h50 (some (a)) 2).bind fun a59 => (kR a59 (x1) ((x2) + (Int32.ofInt 1)) h50).bind fun r59 => if (r59.1) = (0) then (fn_Rd_readFactor_46 N C kR a  r59.2) else ((ag_rc r59.2 (x1) 1).bind fun a62 => (fn_Ln_sign N C a62  r59.2).bind fun r62 => if (r62.1) = ((Int8.ofInt (41)).toInt32) then ((ag_gi r62.2 (x1) 1 2).bind fun g67 => (ag_pf r62.2 (ag_rf (x1)) 1 2 .int (.int ((g67) + (Int32.ofInt 1)))).bind fun h70 => if md_01 (Int32.ofInt 1) = true then (some ((Int32.ofInt 1), h70)) else none) else (fn_Rd_readFactor_46 N C kR a  r62.2)))) else ((fn_Rd_isVariable N C (r2.1) r2.2).bind fun r8 => if (r8.1) = (0) then ((ag_rc r8.2 (x1) 1).bind fun a11 => (fn_Ln_digits N C a11  r8.2).bind fun r11 => if (r11.1) < (0) then (fn_Rd_readFactor_128 N C kR a  r11.2) else ((ag_rc r11.2 (some (a)) 2).bind fun a17 => (fn_Rd_addStep N C a17 (r11.1) r11.2).bind fun r17 => if (r17.1) = (0) then (fn_Rd_readFactor_128 N C kR a  r17.2) else (fn_Rd_readFactor_129 N C kR a (Int32.ofInt 1) r17.2))) else ((ag_gi r8.2 (x1) 1 2).bind fun g23 => (ag_pf r8.2 (ag_rf (x1)) 1 2 .int (.int ((g23) + (Int32.ofInt 1)))).bind fun h26 => (ag_gi h26 (some (a)) 2 2).bind fun g29 => (ag_pf h26 (ag_rf (some (a))) 2 2 .int (.int ((g29) ||| ((Int32.ofInt 1) <<< (((r2.1) - ((Int8.ofInt (65)).toInt32)) &&& 31))))).bind fun h36 => (ag_rc h36 (some (a)) 2).bind fun a43 => (fn_Rd_addStep N C a43 (((1048576 : Int32)) + ((r2.1) - ((Int8.ofInt (65)).toInt32))) h36).bind fun r43 => if md_01 (r43.1) = true then (some ((r43.1), r43.2)) else none))
def fn_Rd_readFactor (N : Nat) (C : Nat × Nat) (kR : Nat → Option Nat → Int32 → ag_H → Option ((Int32) × ag_H)) (a : Nat) (p1 : Option Nat) (p2 : Int32) (h : ag_H) : Option ((Int32) × ag_H) := fn_Rd_readFactor_0 N C kR a p1 p2 h
theorem w_Rd_readFactor_129 {l : Launch} {G : ag_G} {d N Hk : Nat} {C : Nat × Nat} {a : Nat} {kR : Nat → Option Nat → Int32 → ag_H → Option ((Int32) × ag_H)} (hC : ag_cN G = C.1 ∧ ag_cS G = C.2) (hkR : ∀ (dk : Nat), Hk ≤ dk → ∀ (ua : Nat) (u0 : Option Nat) (u1 : Int32) (hh : ag_H) (res : (Int32) × ag_H), kR ua u0 u1 hh = some res → ag_Met gc_P l G m_Rd_readSum dk [.ref ua, ag_rf u0, .int u1] hh (fun v h' => v = some (.int res.1) ∧ h' = res.2)) (hH : Hk + 0 ≤ d) {s0 : Int32} {h : ag_H} {res : (Int32) × ag_H} (hyp : fn_Rd_readFactor_129 N C kR a s0 h = some res) : ag_ev gc_P l G m_Rd_readFactor (d + 1) (ag_ret gc_P G (fun v h' => v = some (.int res.1) ∧ h' = res.2)) 129 [(0, .ref a)] [.int (s0)] h := by
  unfold fn_Rd_readFactor_129 at hyp
  have hc : ag_C1 [(0, .ref a)] := (ag_c1 rfl ag_c0)
  obtain ⟨q1, hyp⟩ := md_ifs hyp
  cases hyp
  exact ag_iret d_Rd_readFactor_129 rfl (md_01n q1) ⟨rfl, rfl⟩
theorem w_Rd_readFactor_128 {l : Launch} {G : ag_G} {d N Hk : Nat} {C : Nat × Nat} {a : Nat} {kR : Nat → Option Nat → Int32 → ag_H → Option ((Int32) × ag_H)} (hC : ag_cN G = C.1 ∧ ag_cS G = C.2) (hkR : ∀ (dk : Nat), Hk ≤ dk → ∀ (ua : Nat) (u0 : Option Nat) (u1 : Int32) (hh : ag_H) (res : (Int32) × ag_H), kR ua u0 u1 hh = some res → ag_Met gc_P l G m_Rd_readSum dk [.ref ua, ag_rf u0, .int u1] hh (fun v h' => v = some (.int res.1) ∧ h' = res.2)) (hH : Hk + 0 ≤ d) {h : ag_H} {res : (Int32) × ag_H} (hyp : fn_Rd_readFactor_128 N C kR a h = some res) : ag_ev gc_P l G m_Rd_readFactor (d + 1) (ag_ret gc_P G (fun v h' => v = some (.int res.1) ∧ h' = res.2)) 128 [(0, .ref a)] [] h := by
  unfold fn_Rd_readFactor_128 at hyp
  have hc : ag_C1 [(0, .ref a)] := (ag_c1 rfl ag_c0)
  refine ag_iconst d_Rd_readFactor_128 ?_
  exact ag_dr (ag_d1 rfl ag_d0) (w_Rd_readFactor_129 hC hkR hH hyp)
theorem w_Rd_readFactor_46 {l : Launch} {G : ag_G} {d N Hk : Nat} {C : Nat × Nat} {a : Nat} {kR : Nat → Option Nat → Int32 → ag_H → Option ((Int32) × ag_H)} (hC : ag_cN G = C.1 ∧ ag_cS G = C.2) (hkR : ∀ (dk : Nat), Hk ≤ dk → ∀ (ua : Nat) (u0 : Option Nat) (u1 : Int32) (hh : ag_H) (res : (Int32) × ag_H), kR ua u0 u1 hh = some res → ag_Met gc_P l G m_Rd_readSum dk [.ref ua, ag_rf u0, .int u1] hh (fun v h' => v = some (.int res.1) ∧ h' = res.2)) (hH : Hk + 0 ≤ d) {h : ag_H} {res : (Int32) × ag_H} (hyp : fn_Rd_readFactor_46 N C kR a h = some res) : ag_ev gc_P l G m_Rd_readFactor (d + 1) (ag_ret gc_P G (fun v h' => v = some (.int res.1) ∧ h' = res.2)) 46 [(0, .ref a)] [] h := by
  unfold fn_Rd_readFactor_46 at hyp
  have hc : ag_C1 [(0, .ref a)] := (ag_c1 rfl ag_c0)
  refine ag_iconst d_Rd_readFactor_46 ?_
  obtain ⟨q2, hyp⟩ := md_ifs hyp
  cases hyp
  exact ag_iret d_Rd_readFactor_47 rfl (md_01n q2) ⟨rfl, rfl⟩
theorem w_Rd_readFactor_0 {l : Launch} {G : ag_G} {d N Hk : Nat} {C : Nat × Nat} {a : Nat} {kR : Nat → Option Nat → Int32 → ag_H → Option ((Int32) × ag_H)} (hC : ag_cN G = C.1 ∧ ag_cS G = C.2) (hkR : ∀ (dk : Nat), Hk ≤ dk → ∀ (ua : Nat) (u0 : Option Nat) (u1 : Int32) (hh : ag_H) (res : (Int32) × ag_H), kR ua u0 u1 hh = some res → ag_Met gc_P l G m_Rd_readSum dk [.ref ua, ag_rf u0, .int u1] hh (fun v h' => v = some (.int res.1) ∧ h' = res.2)) (hH : Hk + 0 ≤ d) {x1 : Option Nat} {x2 : Int32} {h : ag_H} {res : (Int32) × ag_H} (hyp : fn_Rd_readFactor_0 N C kR a x1 x2 h = some res) : ag_ev gc_P l G m_Rd_readFactor (d + 1) (ag_ret gc_P G (fun v h' => v = some (.int res.1) ∧ h' = res.2)) 0 [(0, .ref a), (1, ag_rf (x1)), (2, .int (x2))] [] h := by
  unfold fn_Rd_readFactor_0 at hyp
  have hc : ag_C1 [(0, .ref a), (1, ag_rf (x1)), (2, .int (x2))] := (ag_c1 rfl (ag_c1 (ag_cat_rf _) (ag_c1 rfl ag_c0)))
  refine gc_aload_n (r := (x1)) d_Rd_readFactor_0 rfl ?_
  obtain ⟨a2, ea2, hyp⟩ := md_bd hyp
  obtain ⟨r2, er2, hyp⟩ := md_bd hyp
  refine gc_callv (r := (x1)) (as := []) d_Rd_readFactor_1 ml_Rd_55 gw_299 rfl sl_Ln_sign ea2 (Nat.le_of_ble_eq_true rfl) (w_Ln_sign hC (d := d) (by omega) er2) (fun v2 h2 q2 => ?_)
  obtain ⟨rfl, rfl⟩ := q2
  refine gc_istore_n d_Rd_readFactor_4 (by decide) hc ?_
  replace hc := ag_cs (i := 3) (v := .int (r2.1)) hc rfl
  refine ag_iload_n d_Rd_readFactor_5 rfl ?_
  refine ag_bipush d_Rd_readFactor_6 ?_
  refine ag_icmp_ne d_Rd_readFactor_8 rfl (fun q => ?_) (fun q => ?_)
  · replace hyp := md_ifn q hyp
    refine ag_iload_n d_Rd_readFactor_60 rfl ?_
    obtain ⟨r8, er8, hyp⟩ := md_bd hyp
    refine ag_calls (as := [.int (r2.1)]) d_Rd_readFactor_61 ml_Rd_80 gw_338 (Nat.le_of_ble_eq_true rfl) (w_Rd_isVariable hC (d := d) (by omega) er8) (fun v8 h8 q8 => ?_)
    obtain ⟨rfl, rfl⟩ := q8
    refine ag_if_eq d_Rd_readFactor_64 rfl (fun q => ?_) (fun q => ?_)
    · replace hyp := md_ifp q hyp
      refine gc_aload_n (r := (x1)) d_Rd_readFactor_104 rfl ?_
      obtain ⟨a11, ea11, hyp⟩ := md_bd hyp
      obtain ⟨r11, er11, hyp⟩ := md_bd hyp
      refine gc_callv (r := (x1)) (as := []) d_Rd_readFactor_105 ml_Rd_84 gw_342 rfl sl_Ln_digits ea11 (Nat.le_of_ble_eq_true rfl) (w_Ln_digits hC (d := d) (by omega) er11) (fun v11 h11 q11 => ?_)
      obtain ⟨rfl, rfl⟩ := q11
      refine gc_istore d_Rd_readFactor_108 (by decide) hc ?_
      replace hc := ag_cs (i := 4) (v := .int (r11.1)) hc rfl
      refine ag_iload d_Rd_readFactor_110 rfl ?_
      refine ag_if_lt d_Rd_readFactor_112 rfl (fun q => ?_) (fun q => ?_)
      · replace hyp := md_ifp q hyp
        exact ag_dr (ag_d1 rfl ag_d0) (w_Rd_readFactor_128 hC hkR hH hyp)
      · replace hyp := md_ifn q hyp
        refine gc_aload_n (r := (some (a))) d_Rd_readFactor_115 rfl ?_
        refine ag_iload d_Rd_readFactor_116 rfl ?_
        obtain ⟨a17, ea17, hyp⟩ := md_bd hyp
        obtain ⟨r17, er17, hyp⟩ := md_bd hyp
        refine gc_callv (r := (some (a))) (as := [.int (r11.1)]) d_Rd_readFactor_118 ml_Rd_105 gw_446 rfl sl_Rd_addStep ea17 (Nat.le_of_ble_eq_true rfl) (w_Rd_addStep hC (d := d) (by omega) er17) (fun v17 h17 q17 => ?_)
        obtain ⟨rfl, rfl⟩ := q17
        refine ag_if_eq d_Rd_readFactor_121 rfl (fun q => ?_) (fun q => ?_)
        · replace hyp := md_ifp q hyp
          exact ag_dr (ag_d1 rfl ag_d0) (w_Rd_readFactor_128 hC hkR hH hyp)
        · replace hyp := md_ifn q hyp
          refine ag_iconst d_Rd_readFactor_124 ?_
          refine ag_goto d_Rd_readFactor_125 rfl ?_
          exact ag_dr (ag_d1 rfl ag_d0) (w_Rd_readFactor_129 hC hkR hH hyp)
    · replace hyp := md_ifn q hyp
      refine gc_aload_n (r := (x1)) d_Rd_readFactor_67 rfl ?_
      refine ag_dup d_Rd_readFactor_68 (ag_cat_rf _) ?_
      obtain ⟨g23, eg23, hyp⟩ := md_bd hyp
      refine gc_geti (r := (x1)) d_Rd_readFactor_69 fr_Rd_15 eg23 ?_
      refine ag_iconst d_Rd_readFactor_72 ?_
      refine ag_iadd d_Rd_readFactor_73 ?_
      obtain ⟨h26, eh26, hyp⟩ := md_bd hyp
      refine gc_putf (r := (x1)) d_Rd_readFactor_74 fl_Rd_15 (fun q => by cases q) eh26 ?_
      refine gc_aload_n (r := (some (a))) d_Rd_readFactor_77 rfl ?_
      refine ag_dup d_Rd_readFactor_78 rfl ?_
      obtain ⟨g29, eg29, hyp⟩ := md_bd hyp
      refine gc_geti (r := (some (a))) d_Rd_readFactor_79 fr_Rd_24 eg29 ?_
      refine ag_iconst d_Rd_readFactor_82 ?_
      refine ag_iload_n d_Rd_readFactor_83 rfl ?_
      refine ag_bipush d_Rd_readFactor_84 ?_
      refine ag_isub d_Rd_readFactor_86 ?_
      refine ag_ishl d_Rd_readFactor_87 ?_
      refine ag_ior d_Rd_readFactor_88 ?_
      obtain ⟨h36, eh36, hyp⟩ := md_bd hyp
      refine gc_putf (r := (some (a))) d_Rd_readFactor_89 fl_Rd_24 (fun q => by cases q) eh36 ?_
      refine gc_aload_n (r := (some (a))) d_Rd_readFactor_92 rfl ?_
      refine ag_ldc d_Rd_readFactor_93 gw_340 ?_
      refine ag_iload_n d_Rd_readFactor_95 rfl ?_
      refine ag_bipush d_Rd_readFactor_96 ?_
      refine ag_isub d_Rd_readFactor_98 ?_
      refine ag_iadd d_Rd_readFactor_99 ?_
      obtain ⟨a43, ea43, hyp⟩ := md_bd hyp
      obtain ⟨r43, er43, hyp⟩ := md_bd hyp
      refine gc_callv (r := (some (a))) (as := [.int (((1048576 : Int32)) + ((r2.1) - ((Int8.ofInt (65)).toInt32)))]) d_Rd_readFactor_100 ml_Rd_105 gw_446 rfl sl_Rd_addStep ea43 (Nat.le_of_ble_eq_true rfl) (w_Rd_addStep hC (d := d) (by omega) er43) (fun v43 h43 q43 => ?_)
      obtain ⟨rfl, rfl⟩ := q43
      obtain ⟨q44, hyp⟩ := md_ifs hyp
      cases hyp
      exact ag_iret d_Rd_readFactor_103 rfl (md_01n q44) ⟨rfl, rfl⟩
  · replace hyp := md_ifp q hyp
    refine gc_aload_n (r := (x1)) d_Rd_readFactor_11 rfl ?_
    refine ag_dup d_Rd_readFactor_12 (ag_cat_rf _) ?_
    obtain ⟨g47, eg47, hyp⟩ := md_bd hyp
    refine gc_geti (r := (x1)) d_Rd_readFactor_13 fr_Rd_15 eg47 ?_
    refine ag_iconst d_Rd_readFactor_16 ?_
    refine ag_iadd d_Rd_readFactor_17 ?_
    obtain ⟨h50, eh50, hyp⟩ := md_bd hyp
    refine gc_putf (r := (x1)) d_Rd_readFactor_18 fl_Rd_15 (fun q => by cases q) eh50 ?_
    refine ag_iload_n d_Rd_readFactor_21 rfl ?_
    refine ag_iconst d_Rd_readFactor_22 ?_
    refine ag_icmp_ge d_Rd_readFactor_23 rfl (fun q => ?_) (fun q => ?_)
    · replace hyp := md_ifp q hyp
      exact ag_dr (ag_d1 rfl ag_d0) (w_Rd_readFactor_46 hC hkR hH hyp)
    · replace hyp := md_ifn q hyp
      refine gc_aload_n (r := (some (a))) d_Rd_readFactor_26 rfl ?_
      refine gc_aload_n (r := (x1)) d_Rd_readFactor_27 rfl ?_
      refine ag_iload_n d_Rd_readFactor_28 rfl ?_
      refine ag_iconst d_Rd_readFactor_29 ?_
      refine ag_iadd d_Rd_readFactor_30 ?_
      obtain ⟨a59, ea59, hyp⟩ := md_bd hyp
      obtain ⟨r59, er59, hyp⟩ := md_bd hyp
      refine gc_callv (r := (some (a))) (as := [ag_rf (x1), .int ((x2) + (Int32.ofInt 1))]) d_Rd_readFactor_31 ml_Rd_97 gw_434 rfl sl_Rd_readSum ea59 (Nat.le_of_ble_eq_true rfl) (hkR d (by omega) _ _ _ _ _ er59) (fun v59 h59 q59 => ?_)
      obtain ⟨rfl, rfl⟩ := q59
      refine ag_if_eq d_Rd_readFactor_34 rfl (fun q => ?_) (fun q => ?_)
      · replace hyp := md_ifp q hyp
        exact ag_dr (ag_d1 rfl ag_d0) (w_Rd_readFactor_46 hC hkR hH hyp)
      · replace hyp := md_ifn q hyp
        refine gc_aload_n (r := (x1)) d_Rd_readFactor_37 rfl ?_
        obtain ⟨a62, ea62, hyp⟩ := md_bd hyp
        obtain ⟨r62, er62, hyp⟩ := md_bd hyp
        refine gc_callv (r := (x1)) (as := []) d_Rd_readFactor_38 ml_Rd_55 gw_299 rfl sl_Ln_sign ea62 (Nat.le_of_ble_eq_true rfl) (w_Ln_sign hC (d := d) (by omega) er62) (fun v62 h62 q62 => ?_)
        obtain ⟨rfl, rfl⟩ := q62
        refine ag_bipush d_Rd_readFactor_41 ?_
        refine ag_icmp_eq d_Rd_readFactor_43 rfl (fun q => ?_) (fun q => ?_)
        · replace hyp := md_ifp q hyp
          refine gc_aload_n (r := (x1)) d_Rd_readFactor_48 rfl ?_
          refine ag_dup d_Rd_readFactor_49 (ag_cat_rf _) ?_
          obtain ⟨g67, eg67, hyp⟩ := md_bd hyp
          refine gc_geti (r := (x1)) d_Rd_readFactor_50 fr_Rd_15 eg67 ?_
          refine ag_iconst d_Rd_readFactor_53 ?_
          refine ag_iadd d_Rd_readFactor_54 ?_
          obtain ⟨h70, eh70, hyp⟩ := md_bd hyp
          refine gc_putf (r := (x1)) d_Rd_readFactor_55 fl_Rd_15 (fun q => by cases q) eh70 ?_
          refine ag_iconst d_Rd_readFactor_58 ?_
          obtain ⟨q72, hyp⟩ := md_ifs hyp
          cases hyp
          exact ag_iret d_Rd_readFactor_59 rfl (md_01n q72) ⟨rfl, rfl⟩
        · replace hyp := md_ifn q hyp
          exact ag_dr (ag_d1 rfl ag_d0) (w_Rd_readFactor_46 hC hkR hH hyp)
theorem w_Rd_readFactor {l : Launch} {G : ag_G} {d N Hk : Nat} {C : Nat × Nat} {kR : Nat → Option Nat → Int32 → ag_H → Option ((Int32) × ag_H)} (hC : ag_cN G = C.1 ∧ ag_cS G = C.2) (hkR : ∀ (dk : Nat), Hk ≤ dk → ∀ (ua : Nat) (u0 : Option Nat) (u1 : Int32) (hh : ag_H) (res : (Int32) × ag_H), kR ua u0 u1 hh = some res → ag_Met gc_P l G m_Rd_readSum dk [.ref ua, ag_rf u0, .int u1] hh (fun v h' => v = some (.int res.1) ∧ h' = res.2)) (hH : Hk + 0 + 1 ≤ d) {a : Nat} {p1 : Option Nat} {p2 : Int32} {h : ag_H} {res : (Int32) × ag_H} (hyp : fn_Rd_readFactor N C kR a p1 p2 h = some res) : ag_Met gc_P l G m_Rd_readFactor d [.ref a, ag_rf (p1), .int (p2)] h (fun v h' => v = some (.int res.1) ∧ h' = res.2) := by
  obtain ⟨d, rfl, hG⟩ := md_dd hH
  exact ag_met0 (by decide) rfl (ag_v1 rfl (ag_v1 (ag_cat_rf _) (ag_v1 rfl ag_v0))) (Nat.le_of_ble_eq_true rfl) (ag_dr (ag_d1 rfl (ag_d1 rfl (ag_d1 rfl ag_d0))) (w_Rd_readFactor_0 hC hkR hG hyp))
def fn_Ln_isAtLastStar_18 (N : Nat) (C : Nat × Nat) (a : Nat) : Nat → Int32 → ag_H → Option ((Int32) × ag_H)
  | 0, _, _ => none
  | n + 1, x1, h => (ag_gi h (some (a)) 1 1).bind fun g3 => if (g3) ≤ (x1) then (if md_01 (Int32.ofInt 1) = true then (some ((Int32.ofInt 1), h)) else none) else ((ag_gr h (some (a)) 1 0).bind fun g8 => (ag_ai h 1 (g8)).bind fun p10 => if md_in (x1) p10.1 = true then (if (p10.2 (x1).toNatClampNeg) = ((Int8.ofInt (32)).toInt32) then (fn_Ln_isAtLastStar_18 N C a n ((x1) + Int32.ofInt (1)) h) else (if md_01 (Int32.ofInt 0) = true then (some ((Int32.ofInt 0), h)) else none)) else none)
theorem fe_Ln_isAtLastStar_18 (N : Nat) (C : Nat × Nat) (a : Nat) (n : Nat) (x1 : Int32) (h : ag_H) : fn_Ln_isAtLastStar_18 N C a (n + 1) x1 h = ((ag_gi h (some (a)) 1 1).bind fun g3 => if (g3) ≤ (x1) then (if md_01 (Int32.ofInt 1) = true then (some ((Int32.ofInt 1), h)) else none) else ((ag_gr h (some (a)) 1 0).bind fun g8 => (ag_ai h 1 (g8)).bind fun p10 => if md_in (x1) p10.1 = true then (if (p10.2 (x1).toNatClampNeg) = ((Int8.ofInt (32)).toInt32) then (fn_Ln_isAtLastStar_18 N C a n ((x1) + Int32.ofInt (1)) h) else (if md_01 (Int32.ofInt 0) = true then (some ((Int32.ofInt 0), h)) else none)) else none)) := rfl
def fn_Ln_isAtLastStar_0 (N : Nat) (C : Nat × Nat) (a : Nat) (h : ag_H) : Option ((Int32) × ag_H) := (ag_rc h (some (a)) 1).bind fun a2 => (fn_Ln_sign N C a2  h).bind fun r2 => if (r2.1) = ((Int8.ofInt (42)).toInt32) then ((ag_gi r2.2 (some (a)) 1 2).bind fun g6 => fn_Ln_isAtLastStar_18 N C a N ((g6) + (Int32.ofInt 1)) r2.2) else (if md_01 (Int32.ofInt 0) = true then (some ((Int32.ofInt 0), r2.2)) else none)
def fn_Ln_isAtLastStar (N : Nat) (C : Nat × Nat) (a : Nat) (h : ag_H) : Option ((Int32) × ag_H) := fn_Ln_isAtLastStar_0 N C a h
theorem w_Ln_isAtLastStar_18 {l : Launch} {G : ag_G} {d N : Nat} {C : Nat × Nat} {a : Nat} (hC : ag_cN G = C.1 ∧ ag_cS G = C.2) (hH : 0 ≤ d) : ∀ (n : Nat) (res : (Int32) × ag_H) (x1 : Int32) (h : ag_H) , fn_Ln_isAtLastStar_18 N C a n x1 h = some res → ag_ev gc_P l G m_Ln_isAtLastStar (d + 1) (ag_ret gc_P G (fun v h' => v = some (.int res.1) ∧ h' = res.2)) 18 [(0, .ref a), (1, .int (x1))] [] h := by
  intro n
  induction n with
  | zero =>
    intro res x1 h hyp
    cases hyp
  | succ n ih =>
    intro res x1 h hyp
    rw [fe_Ln_isAtLastStar_18] at hyp
    have hc : ag_C1 [(0, .ref a), (1, .int (x1))] := (ag_c1 rfl (ag_c1 rfl ag_c0))
    refine ag_iload_n d_Ln_isAtLastStar_18 rfl ?_
    refine gc_aload_n (r := (some (a))) d_Ln_isAtLastStar_19 rfl ?_
    obtain ⟨g3, eg3, hyp⟩ := md_bd hyp
    refine gc_geti (r := (some (a))) d_Ln_isAtLastStar_20 fr_Ln_15 eg3 ?_
    refine ag_icmp_ge d_Ln_isAtLastStar_23 rfl (fun q => ?_) (fun q => ?_)
    · replace hyp := md_ifp q hyp
      refine ag_iconst d_Ln_isAtLastStar_45 ?_
      obtain ⟨q6, hyp⟩ := md_ifs hyp
      cases hyp
      exact ag_iret d_Ln_isAtLastStar_46 rfl (md_01n q6) ⟨rfl, rfl⟩
    · replace hyp := md_ifn q hyp
      refine gc_aload_n (r := (some (a))) d_Ln_isAtLastStar_26 rfl ?_
      obtain ⟨g8, eg8, hyp⟩ := md_bd hyp
      refine gc_getr (r := (some (a))) d_Ln_isAtLastStar_27 fr_Ln_9 eg8 ?_
      refine ag_iload_n d_Ln_isAtLastStar_30 rfl ?_
      obtain ⟨p10, ep10, hyp⟩ := md_bd hyp
      obtain ⟨q10, hyp⟩ := md_ifs hyp
      refine gc_cld (r := (g8)) d_Ln_isAtLastStar_31 ep10 q10 ?_
      refine ag_bipush d_Ln_isAtLastStar_32 ?_
      refine ag_icmp_eq d_Ln_isAtLastStar_34 rfl (fun q => ?_) (fun q => ?_)
      · replace hyp := md_ifp q hyp
        refine gc_iinc d_Ln_isAtLastStar_39 rfl (by decide) hc ?_
        replace hc := ag_cs (i := 1) (v := .int ((x1) + Int32.ofInt (1))) hc rfl
        refine ag_goto d_Ln_isAtLastStar_42 rfl ?_
        exact ag_dr (ag_d1 rfl (ag_d1 rfl ag_d0)) (ih _ _ _ hyp)
      · replace hyp := md_ifn q hyp
        refine ag_iconst d_Ln_isAtLastStar_37 ?_
        obtain ⟨q16, hyp⟩ := md_ifs hyp
        cases hyp
        exact ag_iret d_Ln_isAtLastStar_38 rfl (md_01n q16) ⟨rfl, rfl⟩
theorem w_Ln_isAtLastStar_0 {l : Launch} {G : ag_G} {d N : Nat} {C : Nat × Nat} {a : Nat} (hC : ag_cN G = C.1 ∧ ag_cS G = C.2) (hH : 0 ≤ d) {h : ag_H} {res : (Int32) × ag_H} (hyp : fn_Ln_isAtLastStar_0 N C a h = some res) : ag_ev gc_P l G m_Ln_isAtLastStar (d + 1) (ag_ret gc_P G (fun v h' => v = some (.int res.1) ∧ h' = res.2)) 0 [(0, .ref a)] [] h := by
  unfold fn_Ln_isAtLastStar_0 at hyp
  have hc : ag_C1 [(0, .ref a)] := (ag_c1 rfl ag_c0)
  refine gc_aload_n (r := (some (a))) d_Ln_isAtLastStar_0 rfl ?_
  obtain ⟨a2, ea2, hyp⟩ := md_bd hyp
  obtain ⟨r2, er2, hyp⟩ := md_bd hyp
  refine gc_callv (r := (some (a))) (as := []) d_Ln_isAtLastStar_1 ml_Ln_22 gw_299 rfl sl_Ln_sign ea2 (Nat.le_of_ble_eq_true rfl) (w_Ln_sign hC (d := d) (by omega) er2) (fun v2 h2 q2 => ?_)
  obtain ⟨rfl, rfl⟩ := q2
  refine ag_bipush d_Ln_isAtLastStar_4 ?_
  refine ag_icmp_eq d_Ln_isAtLastStar_6 rfl (fun q => ?_) (fun q => ?_)
  · replace hyp := md_ifp q hyp
    refine gc_aload_n (r := (some (a))) d_Ln_isAtLastStar_11 rfl ?_
    obtain ⟨g6, eg6, hyp⟩ := md_bd hyp
    refine gc_geti (r := (some (a))) d_Ln_isAtLastStar_12 fr_Ln_19 eg6 ?_
    refine ag_iconst d_Ln_isAtLastStar_15 ?_
    refine ag_iadd d_Ln_isAtLastStar_16 ?_
    refine gc_istore_n d_Ln_isAtLastStar_17 (by decide) hc ?_
    replace hc := ag_cs (i := 1) (v := .int ((g6) + (Int32.ofInt 1))) hc rfl
    exact ag_dr (ag_d1 rfl (ag_d1 rfl ag_d0)) (w_Ln_isAtLastStar_18 hC hH N _ _ _ hyp)
  · replace hyp := md_ifn q hyp
    refine ag_iconst d_Ln_isAtLastStar_9 ?_
    obtain ⟨q11, hyp⟩ := md_ifs hyp
    cases hyp
    exact ag_iret d_Ln_isAtLastStar_10 rfl (md_01n q11) ⟨rfl, rfl⟩
theorem w_Ln_isAtLastStar {l : Launch} {G : ag_G} {d N : Nat} {C : Nat × Nat} (hC : ag_cN G = C.1 ∧ ag_cS G = C.2) (hH : 0 + 1 ≤ d) {a : Nat} {h : ag_H} {res : (Int32) × ag_H} (hyp : fn_Ln_isAtLastStar N C a h = some res) : ag_Met gc_P l G m_Ln_isAtLastStar d [.ref a] h (fun v h' => v = some (.int res.1) ∧ h' = res.2) := by
  obtain ⟨d, rfl, hG⟩ := md_dd hH
  exact ag_met (by decide) rfl (Nat.le_of_ble_eq_true rfl) (ag_dr (ag_d1 rfl ag_d0) (w_Ln_isAtLastStar_0 hC hG hyp))
def fn_Rd_readProduct_98 (N : Nat) (C : Nat × Nat) (kR : Nat → Option Nat → Int32 → ag_H → Option ((Int32) × ag_H)) (a : Nat) (x3 : Int32) (h : ag_H) : Option ((Int32) × ag_H) := if md_01 (x3) = true then (some ((x3), h)) else none
def fn_Rd_readProduct_91 (N : Nat) (C : Nat × Nat) (kR : Nat → Option Nat → Int32 → ag_H → Option ((Int32) × ag_H)) (a : Nat) (k10 : Option Nat → Int32 → Int32 → Int32 → ag_H → Option ((Int32) × ag_H)) (x1 : Option Nat) (x2 : Int32) (x4 : Int32) (s0 : Int32) (h : ag_H) : Option ((Int32) × ag_H) := k10 (x1) (x2) (s0) ((x4) + Int32.ofInt (1)) h
def fn_Rd_readProduct_90 (N : Nat) (C : Nat × Nat) (kR : Nat → Option Nat → Int32 → ag_H → Option ((Int32) × ag_H)) (a : Nat) (k10 : Option Nat → Int32 → Int32 → Int32 → ag_H → Option ((Int32) × ag_H)) (x1 : Option Nat) (x2 : Int32) (x4 : Int32) (h : ag_H) : Option ((Int32) × ag_H) := fn_Rd_readProduct_91 N C kR a k10 (x1) (x2) (x4) (Int32.ofInt 0) h
def fn_Rd_readProduct_57 (N : Nat) (C : Nat × Nat) (kR : Nat → Option Nat → Int32 → ag_H → Option ((Int32) × ag_H)) (a : Nat) (k10 : Option Nat → Int32 → Int32 → Int32 → ag_H → Option ((Int32) × ag_H)) (x1 : Option Nat) (x2 : Int32) (x3 : Int32) (x4 : Int32) (s0 : Int32) (h : ag_H) : Option ((Int32) × ag_H) := if (s0) = (0) then (fn_Rd_readProduct_98 N C kR a (x3) h) else ((ag_rc h (some (a)) 2).bind fun a7 => (fn_Rd_readFactor N C kR a7 (x1) (x2) h).bind fun r7 => if (r7.1) = (0) then (fn_Rd_readProduct_90 N C kR a k10 (x1) (x2) (x4) r7.2) else ((ag_rc r7.2 (some (a)) 2).bind fun a12 => (fn_Rd_addStep N C a12 (-(s0)) r7.2).bind fun r12 => if (r12.1) = (0) then (fn_Rd_readProduct_90 N C kR a k10 (x1) (x2) (x4) r12.2) else (fn_Rd_readProduct_91 N C kR a k10 (x1) (x2) (x4) (Int32.ofInt 1) r12.2)))
def fn_Rd_readProduct_10 (N : Nat) (C : Nat × Nat) (kR : Nat → Option Nat → Int32 → ag_H → Option ((Int32) × ag_H)) (a : Nat) : Nat → Option Nat → Int32 → Int32 → Int32 → ag_H → Option ((Int32) × ag_H)
  | 0, _, _, _, _, _ => none
  | n + 1, x1, x2, x3, x4, h => if (x3) = (0) then (fn_Rd_readProduct_98 N C kR a (x3) h) else (if ((Int8.ofInt (40)).toInt32) ≤ (x4) then (fn_Rd_readProduct_98 N C kR a (x3) h) else ((ag_rc h (x1) 1).bind fun a7 => (fn_Ln_isAtLastStar N C a7  h).bind fun r7 => if (r7.1) = (0) then ((ag_rc r7.2 (x1) 1).bind fun a11 => (fn_Ln_takes N C a11 ((Int8.ofInt (42)).toInt32) r7.2).bind fun r11 => if (r11.1) = (0) then ((ag_rc r11.2 (x1) 1).bind fun a15 => (fn_Ln_takes N C a15 ((Int8.ofInt (47)).toInt32) r11.2).bind fun r15 => if (r15.1) = (0) then (fn_Rd_readProduct_57 N C kR a (fn_Rd_readProduct_10 N C kR a n) (x1) (x2) (x3) (x4) (Int32.ofInt 0) r15.2) else (fn_Rd_readProduct_57 N C kR a (fn_Rd_readProduct_10 N C kR a n) (x1) (x2) (x3) (x4) ((Int8.ofInt (47)).toInt32) r15.2)) else (fn_Rd_readProduct_57 N C kR a (fn_Rd_readProduct_10 N C kR a n) (x1) (x2) (x3) (x4) ((Int8.ofInt (42)).toInt32) r11.2)) else (fn_Rd_readProduct_98 N C kR a (x3) r7.2)))
theorem fe_Rd_readProduct_10 (N : Nat) (C : Nat × Nat) (kR : Nat → Option Nat → Int32 → ag_H → Option ((Int32) × ag_H)) (a : Nat) (n : Nat) (x1 : Option Nat) (x2 : Int32) (x3 : Int32) (x4 : Int32) (h : ag_H) : fn_Rd_readProduct_10 N C kR a (n + 1) x1 x2 x3 x4 h = (if (x3) = (0) then (fn_Rd_readProduct_98 N C kR a (x3) h) else (if ((Int8.ofInt (40)).toInt32) ≤ (x4) then (fn_Rd_readProduct_98 N C kR a (x3) h) else ((ag_rc h (x1) 1).bind fun a7 => (fn_Ln_isAtLastStar N C a7  h).bind fun r7 => if (r7.1) = (0) then ((ag_rc r7.2 (x1) 1).bind fun a11 => (fn_Ln_takes N C a11 ((Int8.ofInt (42)).toInt32) r7.2).bind fun r11 => if (r11.1) = (0) then ((ag_rc r11.2 (x1) 1).bind fun a15 => (fn_Ln_takes N C a15 ((Int8.ofInt (47)).toInt32) r11.2).bind fun r15 => if (r15.1) = (0) then (fn_Rd_readProduct_57 N C kR a (fn_Rd_readProduct_10 N C kR a n) (x1) (x2) (x3) (x4) (Int32.ofInt 0) r15.2) else (fn_Rd_readProduct_57 N C kR a (fn_Rd_readProduct_10 N C kR a n) (x1) (x2) (x3) (x4) ((Int8.ofInt (47)).toInt32) r15.2)) else (fn_Rd_readProduct_57 N C kR a (fn_Rd_readProduct_10 N C kR a n) (x1) (x2) (x3) (x4) ((Int8.ofInt (42)).toInt32) r11.2)) else (fn_Rd_readProduct_98 N C kR a (x3) r7.2)))) := rfl
def fn_Rd_readProduct_0 (N : Nat) (C : Nat × Nat) (kR : Nat → Option Nat → Int32 → ag_H → Option ((Int32) × ag_H)) (a : Nat) (x1 : Option Nat) (x2 : Int32) (h : ag_H) : Option ((Int32) × ag_H) := (ag_rc h (some (a)) 2).bind fun a4 => (fn_Rd_readFactor N C kR a4 (x1) (x2) h).bind fun r4 => fn_Rd_readProduct_10 N C kR a N (x1) (x2) (r4.1) (Int32.ofInt 0) r4.2
def fn_Rd_readProduct (N : Nat) (C : Nat × Nat) (kR : Nat → Option Nat → Int32 → ag_H → Option ((Int32) × ag_H)) (a : Nat) (p1 : Option Nat) (p2 : Int32) (h : ag_H) : Option ((Int32) × ag_H) := fn_Rd_readProduct_0 N C kR a p1 p2 h
theorem w_Rd_readProduct_98 {l : Launch} {G : ag_G} {d N Hk : Nat} {C : Nat × Nat} {a : Nat} {kR : Nat → Option Nat → Int32 → ag_H → Option ((Int32) × ag_H)} (hC : ag_cN G = C.1 ∧ ag_cS G = C.2) (hkR : ∀ (dk : Nat), Hk ≤ dk → ∀ (ua : Nat) (u0 : Option Nat) (u1 : Int32) (hh : ag_H) (res : (Int32) × ag_H), kR ua u0 u1 hh = some res → ag_Met gc_P l G m_Rd_readSum dk [.ref ua, ag_rf u0, .int u1] hh (fun v h' => v = some (.int res.1) ∧ h' = res.2)) (hH : Hk + 1 ≤ d) {x3 : Int32} {h : ag_H} {res : (Int32) × ag_H} (hyp : fn_Rd_readProduct_98 N C kR a x3 h = some res) : ag_ev gc_P l G m_Rd_readProduct (d + 1) (ag_ret gc_P G (fun v h' => v = some (.int res.1) ∧ h' = res.2)) 98 [(0, .ref a), (3, .int (x3))] [] h := by
  unfold fn_Rd_readProduct_98 at hyp
  have hc : ag_C1 [(0, .ref a), (3, .int (x3))] := (ag_c1 rfl (ag_c1 rfl ag_c0))
  refine ag_iload_n d_Rd_readProduct_98 rfl ?_
  obtain ⟨q2, hyp⟩ := md_ifs hyp
  cases hyp
  exact ag_iret d_Rd_readProduct_99 rfl (md_01n q2) ⟨rfl, rfl⟩
theorem w_Rd_readProduct_91 {l : Launch} {G : ag_G} {d N Hk : Nat} {C : Nat × Nat} {a : Nat} {kR : Nat → Option Nat → Int32 → ag_H → Option ((Int32) × ag_H)} (hC : ag_cN G = C.1 ∧ ag_cS G = C.2) (hkR : ∀ (dk : Nat), Hk ≤ dk → ∀ (ua : Nat) (u0 : Option Nat) (u1 : Int32) (hh : ag_H) (res : (Int32) × ag_H), kR ua u0 u1 hh = some res → ag_Met gc_P l G m_Rd_readSum dk [.ref ua, ag_rf u0, .int u1] hh (fun v h' => v = some (.int res.1) ∧ h' = res.2)) (hH : Hk + 1 ≤ d) {k10 : Option Nat → Int32 → Int32 → Int32 → ag_H → Option ((Int32) × ag_H)} (hk10 : ∀ (res : (Int32) × ag_H) (y1 : Option Nat) (y2 : Int32) (y3 : Int32) (y4 : Int32) (hh : ag_H), k10 y1 y2 y3 y4 hh = some res → ag_ev gc_P l G m_Rd_readProduct (d + 1) (ag_ret gc_P G (fun v h' => v = some (.int res.1) ∧ h' = res.2)) 10 [(0, .ref a), (1, ag_rf (y1)), (2, .int (y2)), (3, .int (y3)), (4, .int (y4))] [] hh) {x1 : Option Nat} {x2 : Int32} {x4 : Int32} {s0 : Int32} {h : ag_H} {res : (Int32) × ag_H} (hyp : fn_Rd_readProduct_91 N C kR a k10 x1 x2 x4 s0 h = some res) : ag_ev gc_P l G m_Rd_readProduct (d + 1) (ag_ret gc_P G (fun v h' => v = some (.int res.1) ∧ h' = res.2)) 91 [(0, .ref a), (1, ag_rf (x1)), (2, .int (x2)), (4, .int (x4))] [.int (s0)] h := by
  unfold fn_Rd_readProduct_91 at hyp
  have hc : ag_C1 [(0, .ref a), (1, ag_rf (x1)), (2, .int (x2)), (4, .int (x4))] := (ag_c1 rfl (ag_c1 (ag_cat_rf _) (ag_c1 rfl (ag_c1 rfl ag_c0))))
  refine gc_istore_n d_Rd_readProduct_91 (by decide) hc ?_
  replace hc := ag_cs (i := 3) (v := .int (s0)) hc rfl
  refine gc_iinc d_Rd_readProduct_92 rfl (by decide) hc ?_
  replace hc := ag_cs (i := 4) (v := .int ((x4) + Int32.ofInt (1))) hc rfl
  refine ag_goto d_Rd_readProduct_95 rfl ?_
  exact ag_dr (ag_d1 rfl (ag_d1 rfl (ag_d1 rfl (ag_d1 rfl (ag_d1 rfl ag_d0))))) (hk10 _ _ _ _ _ _ hyp)
theorem w_Rd_readProduct_90 {l : Launch} {G : ag_G} {d N Hk : Nat} {C : Nat × Nat} {a : Nat} {kR : Nat → Option Nat → Int32 → ag_H → Option ((Int32) × ag_H)} (hC : ag_cN G = C.1 ∧ ag_cS G = C.2) (hkR : ∀ (dk : Nat), Hk ≤ dk → ∀ (ua : Nat) (u0 : Option Nat) (u1 : Int32) (hh : ag_H) (res : (Int32) × ag_H), kR ua u0 u1 hh = some res → ag_Met gc_P l G m_Rd_readSum dk [.ref ua, ag_rf u0, .int u1] hh (fun v h' => v = some (.int res.1) ∧ h' = res.2)) (hH : Hk + 1 ≤ d) {k10 : Option Nat → Int32 → Int32 → Int32 → ag_H → Option ((Int32) × ag_H)} (hk10 : ∀ (res : (Int32) × ag_H) (y1 : Option Nat) (y2 : Int32) (y3 : Int32) (y4 : Int32) (hh : ag_H), k10 y1 y2 y3 y4 hh = some res → ag_ev gc_P l G m_Rd_readProduct (d + 1) (ag_ret gc_P G (fun v h' => v = some (.int res.1) ∧ h' = res.2)) 10 [(0, .ref a), (1, ag_rf (y1)), (2, .int (y2)), (3, .int (y3)), (4, .int (y4))] [] hh) {x1 : Option Nat} {x2 : Int32} {x4 : Int32} {h : ag_H} {res : (Int32) × ag_H} (hyp : fn_Rd_readProduct_90 N C kR a k10 x1 x2 x4 h = some res) : ag_ev gc_P l G m_Rd_readProduct (d + 1) (ag_ret gc_P G (fun v h' => v = some (.int res.1) ∧ h' = res.2)) 90 [(0, .ref a), (1, ag_rf (x1)), (2, .int (x2)), (4, .int (x4))] [] h := by
  unfold fn_Rd_readProduct_90 at hyp
  have hc : ag_C1 [(0, .ref a), (1, ag_rf (x1)), (2, .int (x2)), (4, .int (x4))] := (ag_c1 rfl (ag_c1 (ag_cat_rf _) (ag_c1 rfl (ag_c1 rfl ag_c0))))
  refine ag_iconst d_Rd_readProduct_90 ?_
  exact ag_dr (ag_d1 rfl (ag_d1 rfl (ag_d1 rfl (ag_d1 rfl ag_d0)))) (w_Rd_readProduct_91 hC hkR hH hk10 hyp)
theorem w_Rd_readProduct_57 {l : Launch} {G : ag_G} {d N Hk : Nat} {C : Nat × Nat} {a : Nat} {kR : Nat → Option Nat → Int32 → ag_H → Option ((Int32) × ag_H)} (hC : ag_cN G = C.1 ∧ ag_cS G = C.2) (hkR : ∀ (dk : Nat), Hk ≤ dk → ∀ (ua : Nat) (u0 : Option Nat) (u1 : Int32) (hh : ag_H) (res : (Int32) × ag_H), kR ua u0 u1 hh = some res → ag_Met gc_P l G m_Rd_readSum dk [.ref ua, ag_rf u0, .int u1] hh (fun v h' => v = some (.int res.1) ∧ h' = res.2)) (hH : Hk + 1 ≤ d) {k10 : Option Nat → Int32 → Int32 → Int32 → ag_H → Option ((Int32) × ag_H)} (hk10 : ∀ (res : (Int32) × ag_H) (y1 : Option Nat) (y2 : Int32) (y3 : Int32) (y4 : Int32) (hh : ag_H), k10 y1 y2 y3 y4 hh = some res → ag_ev gc_P l G m_Rd_readProduct (d + 1) (ag_ret gc_P G (fun v h' => v = some (.int res.1) ∧ h' = res.2)) 10 [(0, .ref a), (1, ag_rf (y1)), (2, .int (y2)), (3, .int (y3)), (4, .int (y4))] [] hh) {x1 : Option Nat} {x2 : Int32} {x3 : Int32} {x4 : Int32} {s0 : Int32} {h : ag_H} {res : (Int32) × ag_H} (hyp : fn_Rd_readProduct_57 N C kR a k10 x1 x2 x3 x4 s0 h = some res) : ag_ev gc_P l G m_Rd_readProduct (d + 1) (ag_ret gc_P G (fun v h' => v = some (.int res.1) ∧ h' = res.2)) 57 [(0, .ref a), (1, ag_rf (x1)), (2, .int (x2)), (3, .int (x3)), (4, .int (x4))] [.int (s0)] h := by
  unfold fn_Rd_readProduct_57 at hyp
  have hc : ag_C1 [(0, .ref a), (1, ag_rf (x1)), (2, .int (x2)), (3, .int (x3)), (4, .int (x4))] := (ag_c1 rfl (ag_c1 (ag_cat_rf _) (ag_c1 rfl (ag_c1 rfl (ag_c1 rfl ag_c0)))))
  refine gc_istore d_Rd_readProduct_57 (by decide) hc ?_
  replace hc := ag_cs (i := 5) (v := .int (s0)) hc rfl
  refine ag_iload d_Rd_readProduct_59 rfl ?_
  refine ag_if_ne d_Rd_readProduct_61 rfl (fun q => ?_) (fun q => ?_)
  · replace hyp := md_ifn q hyp
    refine gc_aload_n (r := (some (a))) d_Rd_readProduct_67 rfl ?_
    refine gc_aload_n (r := (x1)) d_Rd_readProduct_68 rfl ?_
    refine ag_iload_n d_Rd_readProduct_69 rfl ?_
    obtain ⟨a7, ea7, hyp⟩ := md_bd hyp
    obtain ⟨r7, er7, hyp⟩ := md_bd hyp
    refine gc_callv (r := (some (a))) (as := [ag_rf (x1), .int (x2)]) d_Rd_readProduct_70 ml_Rd_111 gw_442 rfl sl_Rd_readFactor ea7 (Nat.le_of_ble_eq_true rfl) (w_Rd_readFactor hC hkR (d := d) (by omega) er7) (fun v7 h7 q7 => ?_)
    obtain ⟨rfl, rfl⟩ := q7
    refine ag_if_eq d_Rd_readProduct_73 rfl (fun q => ?_) (fun q => ?_)
    · replace hyp := md_ifp q hyp
      exact ag_dr (ag_d1 rfl (ag_d1 rfl (ag_d1 rfl (ag_d1 rfl ag_d0)))) (w_Rd_readProduct_90 hC hkR hH hk10 hyp)
    · replace hyp := md_ifn q hyp
      refine gc_aload_n (r := (some (a))) d_Rd_readProduct_76 rfl ?_
      refine ag_iload d_Rd_readProduct_77 rfl ?_
      refine ag_ineg d_Rd_readProduct_79 ?_
      obtain ⟨a12, ea12, hyp⟩ := md_bd hyp
      obtain ⟨r12, er12, hyp⟩ := md_bd hyp
      refine gc_callv (r := (some (a))) (as := [.int (-(s0))]) d_Rd_readProduct_80 ml_Rd_105 gw_446 rfl sl_Rd_addStep ea12 (Nat.le_of_ble_eq_true rfl) (w_Rd_addStep hC (d := d) (by omega) er12) (fun v12 h12 q12 => ?_)
      obtain ⟨rfl, rfl⟩ := q12
      refine ag_if_eq d_Rd_readProduct_83 rfl (fun q => ?_) (fun q => ?_)
      · replace hyp := md_ifp q hyp
        exact ag_dr (ag_d1 rfl (ag_d1 rfl (ag_d1 rfl (ag_d1 rfl ag_d0)))) (w_Rd_readProduct_90 hC hkR hH hk10 hyp)
      · replace hyp := md_ifn q hyp
        refine ag_iconst d_Rd_readProduct_86 ?_
        refine ag_goto d_Rd_readProduct_87 rfl ?_
        exact ag_dr (ag_d1 rfl (ag_d1 rfl (ag_d1 rfl (ag_d1 rfl ag_d0)))) (w_Rd_readProduct_91 hC hkR hH hk10 hyp)
  · replace hyp := md_ifp q hyp
    refine ag_goto d_Rd_readProduct_64 rfl ?_
    exact ag_dr (ag_d1 rfl (ag_d1 rfl ag_d0)) (w_Rd_readProduct_98 hC hkR hH hyp)
theorem w_Rd_readProduct_10 {l : Launch} {G : ag_G} {d N Hk : Nat} {C : Nat × Nat} {a : Nat} {kR : Nat → Option Nat → Int32 → ag_H → Option ((Int32) × ag_H)} (hC : ag_cN G = C.1 ∧ ag_cS G = C.2) (hkR : ∀ (dk : Nat), Hk ≤ dk → ∀ (ua : Nat) (u0 : Option Nat) (u1 : Int32) (hh : ag_H) (res : (Int32) × ag_H), kR ua u0 u1 hh = some res → ag_Met gc_P l G m_Rd_readSum dk [.ref ua, ag_rf u0, .int u1] hh (fun v h' => v = some (.int res.1) ∧ h' = res.2)) (hH : Hk + 1 ≤ d) : ∀ (n : Nat) (res : (Int32) × ag_H) (x1 : Option Nat) (x2 : Int32) (x3 : Int32) (x4 : Int32) (h : ag_H) , fn_Rd_readProduct_10 N C kR a n x1 x2 x3 x4 h = some res → ag_ev gc_P l G m_Rd_readProduct (d + 1) (ag_ret gc_P G (fun v h' => v = some (.int res.1) ∧ h' = res.2)) 10 [(0, .ref a), (1, ag_rf (x1)), (2, .int (x2)), (3, .int (x3)), (4, .int (x4))] [] h := by
  intro n
  induction n with
  | zero =>
    intro res x1 x2 x3 x4 h hyp
    cases hyp
  | succ n ih =>
    intro res x1 x2 x3 x4 h hyp
    rw [fe_Rd_readProduct_10] at hyp
    have hc : ag_C1 [(0, .ref a), (1, ag_rf (x1)), (2, .int (x2)), (3, .int (x3)), (4, .int (x4))] := (ag_c1 rfl (ag_c1 (ag_cat_rf _) (ag_c1 rfl (ag_c1 rfl (ag_c1 rfl ag_c0)))))
    refine ag_iload_n d_Rd_readProduct_10 rfl ?_
    refine ag_if_eq d_Rd_readProduct_11 rfl (fun q => ?_) (fun q => ?_)
    · replace hyp := md_ifp q hyp
      exact ag_dr (ag_d1 rfl (ag_d1 rfl ag_d0)) (w_Rd_readProduct_98 hC hkR hH hyp)
    · replace hyp := md_ifn q hyp
      refine ag_iload d_Rd_readProduct_14 rfl ?_
      refine ag_bipush d_Rd_readProduct_16 ?_
      refine ag_icmp_ge d_Rd_readProduct_18 rfl (fun q => ?_) (fun q => ?_)
      · replace hyp := md_ifp q hyp
        exact ag_dr (ag_d1 rfl (ag_d1 rfl ag_d0)) (w_Rd_readProduct_98 hC hkR hH hyp)
      · replace hyp := md_ifn q hyp
        refine gc_aload_n (r := (x1)) d_Rd_readProduct_21 rfl ?_
        obtain ⟨a7, ea7, hyp⟩ := md_bd hyp
        obtain ⟨r7, er7, hyp⟩ := md_bd hyp
        refine gc_callv (r := (x1)) (as := []) d_Rd_readProduct_22 ml_Rd_114 gw_449 rfl sl_Ln_isAtLastStar ea7 (Nat.le_of_ble_eq_true rfl) (w_Ln_isAtLastStar hC (d := d) (by omega) er7) (fun v7 h7 q7 => ?_)
        obtain ⟨rfl, rfl⟩ := q7
        refine ag_if_ne d_Rd_readProduct_25 rfl (fun q => ?_) (fun q => ?_)
        · replace hyp := md_ifn q hyp
          exact ag_dr (ag_d1 rfl (ag_d1 rfl ag_d0)) (w_Rd_readProduct_98 hC hkR hH hyp)
        · replace hyp := md_ifp q hyp
          refine gc_aload_n (r := (x1)) d_Rd_readProduct_28 rfl ?_
          refine ag_bipush d_Rd_readProduct_29 ?_
          obtain ⟨a11, ea11, hyp⟩ := md_bd hyp
          obtain ⟨r11, er11, hyp⟩ := md_bd hyp
          refine gc_callv (r := (x1)) (as := [.int ((Int8.ofInt (42)).toInt32)]) d_Rd_readProduct_31 ml_Rd_44 gw_295 rfl sl_Ln_takes ea11 (Nat.le_of_ble_eq_true rfl) (w_Ln_takes hC (d := d) (by omega) er11) (fun v11 h11 q11 => ?_)
          obtain ⟨rfl, rfl⟩ := q11
          refine ag_if_eq d_Rd_readProduct_34 rfl (fun q => ?_) (fun q => ?_)
          · replace hyp := md_ifp q hyp
            refine gc_aload_n (r := (x1)) d_Rd_readProduct_42 rfl ?_
            refine ag_bipush d_Rd_readProduct_43 ?_
            obtain ⟨a15, ea15, hyp⟩ := md_bd hyp
            obtain ⟨r15, er15, hyp⟩ := md_bd hyp
            refine gc_callv (r := (x1)) (as := [.int ((Int8.ofInt (47)).toInt32)]) d_Rd_readProduct_45 ml_Rd_44 gw_295 rfl sl_Ln_takes ea15 (Nat.le_of_ble_eq_true rfl) (w_Ln_takes hC (d := d) (by omega) er15) (fun v15 h15 q15 => ?_)
            obtain ⟨rfl, rfl⟩ := q15
            refine ag_if_eq d_Rd_readProduct_48 rfl (fun q => ?_) (fun q => ?_)
            · replace hyp := md_ifp q hyp
              refine ag_iconst d_Rd_readProduct_56 ?_
              exact ag_dr (ag_d1 rfl (ag_d1 rfl (ag_d1 rfl (ag_d1 rfl (ag_d1 rfl ag_d0))))) (w_Rd_readProduct_57 hC hkR hH ih hyp)
            · replace hyp := md_ifn q hyp
              refine ag_bipush d_Rd_readProduct_51 ?_
              refine ag_goto d_Rd_readProduct_53 rfl ?_
              exact ag_dr (ag_d1 rfl (ag_d1 rfl (ag_d1 rfl (ag_d1 rfl (ag_d1 rfl ag_d0))))) (w_Rd_readProduct_57 hC hkR hH ih hyp)
          · replace hyp := md_ifn q hyp
            refine ag_bipush d_Rd_readProduct_37 ?_
            refine ag_goto d_Rd_readProduct_39 rfl ?_
            exact ag_dr (ag_d1 rfl (ag_d1 rfl (ag_d1 rfl (ag_d1 rfl (ag_d1 rfl ag_d0))))) (w_Rd_readProduct_57 hC hkR hH ih hyp)
theorem w_Rd_readProduct_0 {l : Launch} {G : ag_G} {d N Hk : Nat} {C : Nat × Nat} {a : Nat} {kR : Nat → Option Nat → Int32 → ag_H → Option ((Int32) × ag_H)} (hC : ag_cN G = C.1 ∧ ag_cS G = C.2) (hkR : ∀ (dk : Nat), Hk ≤ dk → ∀ (ua : Nat) (u0 : Option Nat) (u1 : Int32) (hh : ag_H) (res : (Int32) × ag_H), kR ua u0 u1 hh = some res → ag_Met gc_P l G m_Rd_readSum dk [.ref ua, ag_rf u0, .int u1] hh (fun v h' => v = some (.int res.1) ∧ h' = res.2)) (hH : Hk + 1 ≤ d) {x1 : Option Nat} {x2 : Int32} {h : ag_H} {res : (Int32) × ag_H} (hyp : fn_Rd_readProduct_0 N C kR a x1 x2 h = some res) : ag_ev gc_P l G m_Rd_readProduct (d + 1) (ag_ret gc_P G (fun v h' => v = some (.int res.1) ∧ h' = res.2)) 0 [(0, .ref a), (1, ag_rf (x1)), (2, .int (x2))] [] h := by
  unfold fn_Rd_readProduct_0 at hyp
  have hc : ag_C1 [(0, .ref a), (1, ag_rf (x1)), (2, .int (x2))] := (ag_c1 rfl (ag_c1 (ag_cat_rf _) (ag_c1 rfl ag_c0)))
  refine gc_aload_n (r := (some (a))) d_Rd_readProduct_0 rfl ?_
  refine gc_aload_n (r := (x1)) d_Rd_readProduct_1 rfl ?_
  refine ag_iload_n d_Rd_readProduct_2 rfl ?_
  obtain ⟨a4, ea4, hyp⟩ := md_bd hyp
  obtain ⟨r4, er4, hyp⟩ := md_bd hyp
  refine gc_callv (r := (some (a))) (as := [ag_rf (x1), .int (x2)]) d_Rd_readProduct_3 ml_Rd_111 gw_442 rfl sl_Rd_readFactor ea4 (Nat.le_of_ble_eq_true rfl) (w_Rd_readFactor hC hkR (d := d) (by omega) er4) (fun v4 h4 q4 => ?_)
  obtain ⟨rfl, rfl⟩ := q4
  refine gc_istore_n d_Rd_readProduct_6 (by decide) hc ?_
  replace hc := ag_cs (i := 3) (v := .int (r4.1)) hc rfl
  refine ag_iconst d_Rd_readProduct_7 ?_
  refine gc_istore d_Rd_readProduct_8 (by decide) hc ?_
  replace hc := ag_cs (i := 4) (v := .int (Int32.ofInt 0)) hc rfl
  exact ag_dr (ag_d1 rfl (ag_d1 rfl (ag_d1 rfl (ag_d1 rfl (ag_d1 rfl ag_d0))))) (w_Rd_readProduct_10 hC hkR hH N _ _ _ _ _ _ hyp)
theorem w_Rd_readProduct {l : Launch} {G : ag_G} {d N Hk : Nat} {C : Nat × Nat} {kR : Nat → Option Nat → Int32 → ag_H → Option ((Int32) × ag_H)} (hC : ag_cN G = C.1 ∧ ag_cS G = C.2) (hkR : ∀ (dk : Nat), Hk ≤ dk → ∀ (ua : Nat) (u0 : Option Nat) (u1 : Int32) (hh : ag_H) (res : (Int32) × ag_H), kR ua u0 u1 hh = some res → ag_Met gc_P l G m_Rd_readSum dk [.ref ua, ag_rf u0, .int u1] hh (fun v h' => v = some (.int res.1) ∧ h' = res.2)) (hH : Hk + 1 + 1 ≤ d) {a : Nat} {p1 : Option Nat} {p2 : Int32} {h : ag_H} {res : (Int32) × ag_H} (hyp : fn_Rd_readProduct N C kR a p1 p2 h = some res) : ag_Met gc_P l G m_Rd_readProduct d [.ref a, ag_rf (p1), .int (p2)] h (fun v h' => v = some (.int res.1) ∧ h' = res.2) := by
  obtain ⟨d, rfl, hG⟩ := md_dd hH
  exact ag_met0 (by decide) rfl (ag_v1 rfl (ag_v1 (ag_cat_rf _) (ag_v1 rfl ag_v0))) (Nat.le_of_ble_eq_true rfl) (ag_dr (ag_d1 rfl (ag_d1 rfl (ag_d1 rfl ag_d0))) (w_Rd_readProduct_0 hC hkR hG hyp))
def fn_Rd_readSum_91 (N : Nat) (C : Nat × Nat) (kR : Nat → Option Nat → Int32 → ag_H → Option ((Int32) × ag_H)) (a : Nat) (x3 : Int32) (h : ag_H) : Option ((Int32) × ag_H) := if md_01 (x3) = true then (some ((x3), h)) else none
def fn_Rd_readSum_84 (N : Nat) (C : Nat × Nat) (kR : Nat → Option Nat → Int32 → ag_H → Option ((Int32) × ag_H)) (a : Nat) (k10 : Option Nat → Int32 → Int32 → Int32 → ag_H → Option ((Int32) × ag_H)) (x1 : Option Nat) (x2 : Int32) (x4 : Int32) (s0 : Int32) (h : ag_H) : Option ((Int32) × ag_H) := k10 (x1) (x2) (s0) ((x4) + Int32.ofInt (1)) h
def fn_Rd_readSum_83 (N : Nat) (C : Nat × Nat) (kR : Nat → Option Nat → Int32 → ag_H → Option ((Int32) × ag_H)) (a : Nat) (k10 : Option Nat → Int32 → Int32 → Int32 → ag_H → Option ((Int32) × ag_H)) (x1 : Option Nat) (x2 : Int32) (x4 : Int32) (h : ag_H) : Option ((Int32) × ag_H) := fn_Rd_readSum_84 N C kR a k10 (x1) (x2) (x4) (Int32.ofInt 0) h
def fn_Rd_readSum_50 (N : Nat) (C : Nat × Nat) (kR : Nat → Option Nat → Int32 → ag_H → Option ((Int32) × ag_H)) (a : Nat) (k10 : Option Nat → Int32 → Int32 → Int32 → ag_H → Option ((Int32) × ag_H)) (x1 : Option Nat) (x2 : Int32) (x3 : Int32) (x4 : Int32) (s0 : Int32) (h : ag_H) : Option ((Int32) × ag_H) := if (s0) = (0) then (fn_Rd_readSum_91 N C kR a (x3) h) else ((ag_rc h (some (a)) 2).bind fun a7 => (fn_Rd_readProduct N C kR a7 (x1) (x2) h).bind fun r7 => if (r7.1) = (0) then (fn_Rd_readSum_83 N C kR a k10 (x1) (x2) (x4) r7.2) else ((ag_rc r7.2 (some (a)) 2).bind fun a12 => (fn_Rd_addStep N C a12 (-(s0)) r7.2).bind fun r12 => if (r12.1) = (0) then (fn_Rd_readSum_83 N C kR a k10 (x1) (x2) (x4) r12.2) else (fn_Rd_readSum_84 N C kR a k10 (x1) (x2) (x4) (Int32.ofInt 1) r12.2)))
def fn_Rd_readSum_10 (N : Nat) (C : Nat × Nat) (kR : Nat → Option Nat → Int32 → ag_H → Option ((Int32) × ag_H)) (a : Nat) : Nat → Option Nat → Int32 → Int32 → Int32 → ag_H → Option ((Int32) × ag_H)
  | 0, _, _, _, _, _ => none
  | n + 1, x1, x2, x3, x4, h => if (x3) = (0) then (fn_Rd_readSum_91 N C kR a (x3) h) else (if ((Int8.ofInt (40)).toInt32) ≤ (x4) then (fn_Rd_readSum_91 N C kR a (x3) h) else ((ag_rc h (x1) 1).bind fun a8 => (fn_Ln_takes N C a8 ((Int8.ofInt (43)).toInt32) h).bind fun r8 => if (r8.1) = (0) then ((ag_rc r8.2 (x1) 1).bind fun a12 => (fn_Ln_takes N C a12 ((Int8.ofInt (45)).toInt32) r8.2).bind fun r12 => if (r12.1) = (0) then (fn_Rd_readSum_50 N C kR a (fn_Rd_readSum_10 N C kR a n) (x1) (x2) (x3) (x4) (Int32.ofInt 0) r12.2) else (fn_Rd_readSum_50 N C kR a (fn_Rd_readSum_10 N C kR a n) (x1) (x2) (x3) (x4) ((Int8.ofInt (45)).toInt32) r12.2)) else (fn_Rd_readSum_50 N C kR a (fn_Rd_readSum_10 N C kR a n) (x1) (x2) (x3) (x4) ((Int8.ofInt (43)).toInt32) r8.2)))
theorem fe_Rd_readSum_10 (N : Nat) (C : Nat × Nat) (kR : Nat → Option Nat → Int32 → ag_H → Option ((Int32) × ag_H)) (a : Nat) (n : Nat) (x1 : Option Nat) (x2 : Int32) (x3 : Int32) (x4 : Int32) (h : ag_H) : fn_Rd_readSum_10 N C kR a (n + 1) x1 x2 x3 x4 h = (if (x3) = (0) then (fn_Rd_readSum_91 N C kR a (x3) h) else (if ((Int8.ofInt (40)).toInt32) ≤ (x4) then (fn_Rd_readSum_91 N C kR a (x3) h) else ((ag_rc h (x1) 1).bind fun a8 => (fn_Ln_takes N C a8 ((Int8.ofInt (43)).toInt32) h).bind fun r8 => if (r8.1) = (0) then ((ag_rc r8.2 (x1) 1).bind fun a12 => (fn_Ln_takes N C a12 ((Int8.ofInt (45)).toInt32) r8.2).bind fun r12 => if (r12.1) = (0) then (fn_Rd_readSum_50 N C kR a (fn_Rd_readSum_10 N C kR a n) (x1) (x2) (x3) (x4) (Int32.ofInt 0) r12.2) else (fn_Rd_readSum_50 N C kR a (fn_Rd_readSum_10 N C kR a n) (x1) (x2) (x3) (x4) ((Int8.ofInt (45)).toInt32) r12.2)) else (fn_Rd_readSum_50 N C kR a (fn_Rd_readSum_10 N C kR a n) (x1) (x2) (x3) (x4) ((Int8.ofInt (43)).toInt32) r8.2)))) := rfl
def fn_Rd_readSum_0 (N : Nat) (C : Nat × Nat) (kR : Nat → Option Nat → Int32 → ag_H → Option ((Int32) × ag_H)) (a : Nat) (x1 : Option Nat) (x2 : Int32) (h : ag_H) : Option ((Int32) × ag_H) := (ag_rc h (some (a)) 2).bind fun a4 => (fn_Rd_readProduct N C kR a4 (x1) (x2) h).bind fun r4 => fn_Rd_readSum_10 N C kR a N (x1) (x2) (r4.1) (Int32.ofInt 0) r4.2
def fn_Rd_readSum (N : Nat) (C : Nat × Nat) (kR : Nat → Option Nat → Int32 → ag_H → Option ((Int32) × ag_H)) (a : Nat) (p1 : Option Nat) (p2 : Int32) (h : ag_H) : Option ((Int32) × ag_H) := fn_Rd_readSum_0 N C kR a p1 p2 h
theorem w_Rd_readSum_91 {l : Launch} {G : ag_G} {d N Hk : Nat} {C : Nat × Nat} {a : Nat} {kR : Nat → Option Nat → Int32 → ag_H → Option ((Int32) × ag_H)} (hC : ag_cN G = C.1 ∧ ag_cS G = C.2) (hkR : ∀ (dk : Nat), Hk ≤ dk → ∀ (ua : Nat) (u0 : Option Nat) (u1 : Int32) (hh : ag_H) (res : (Int32) × ag_H), kR ua u0 u1 hh = some res → ag_Met gc_P l G m_Rd_readSum dk [.ref ua, ag_rf u0, .int u1] hh (fun v h' => v = some (.int res.1) ∧ h' = res.2)) (hH : Hk + 2 ≤ d) {x3 : Int32} {h : ag_H} {res : (Int32) × ag_H} (hyp : fn_Rd_readSum_91 N C kR a x3 h = some res) : ag_ev gc_P l G m_Rd_readSum (d + 1) (ag_ret gc_P G (fun v h' => v = some (.int res.1) ∧ h' = res.2)) 91 [(0, .ref a), (3, .int (x3))] [] h := by
  unfold fn_Rd_readSum_91 at hyp
  have hc : ag_C1 [(0, .ref a), (3, .int (x3))] := (ag_c1 rfl (ag_c1 rfl ag_c0))
  refine ag_iload_n d_Rd_readSum_91 rfl ?_
  obtain ⟨q2, hyp⟩ := md_ifs hyp
  cases hyp
  exact ag_iret d_Rd_readSum_92 rfl (md_01n q2) ⟨rfl, rfl⟩
theorem w_Rd_readSum_84 {l : Launch} {G : ag_G} {d N Hk : Nat} {C : Nat × Nat} {a : Nat} {kR : Nat → Option Nat → Int32 → ag_H → Option ((Int32) × ag_H)} (hC : ag_cN G = C.1 ∧ ag_cS G = C.2) (hkR : ∀ (dk : Nat), Hk ≤ dk → ∀ (ua : Nat) (u0 : Option Nat) (u1 : Int32) (hh : ag_H) (res : (Int32) × ag_H), kR ua u0 u1 hh = some res → ag_Met gc_P l G m_Rd_readSum dk [.ref ua, ag_rf u0, .int u1] hh (fun v h' => v = some (.int res.1) ∧ h' = res.2)) (hH : Hk + 2 ≤ d) {k10 : Option Nat → Int32 → Int32 → Int32 → ag_H → Option ((Int32) × ag_H)} (hk10 : ∀ (res : (Int32) × ag_H) (y1 : Option Nat) (y2 : Int32) (y3 : Int32) (y4 : Int32) (hh : ag_H), k10 y1 y2 y3 y4 hh = some res → ag_ev gc_P l G m_Rd_readSum (d + 1) (ag_ret gc_P G (fun v h' => v = some (.int res.1) ∧ h' = res.2)) 10 [(0, .ref a), (1, ag_rf (y1)), (2, .int (y2)), (3, .int (y3)), (4, .int (y4))] [] hh) {x1 : Option Nat} {x2 : Int32} {x4 : Int32} {s0 : Int32} {h : ag_H} {res : (Int32) × ag_H} (hyp : fn_Rd_readSum_84 N C kR a k10 x1 x2 x4 s0 h = some res) : ag_ev gc_P l G m_Rd_readSum (d + 1) (ag_ret gc_P G (fun v h' => v = some (.int res.1) ∧ h' = res.2)) 84 [(0, .ref a), (1, ag_rf (x1)), (2, .int (x2)), (4, .int (x4))] [.int (s0)] h := by
  unfold fn_Rd_readSum_84 at hyp
  have hc : ag_C1 [(0, .ref a), (1, ag_rf (x1)), (2, .int (x2)), (4, .int (x4))] := (ag_c1 rfl (ag_c1 (ag_cat_rf _) (ag_c1 rfl (ag_c1 rfl ag_c0))))
  refine gc_istore_n d_Rd_readSum_84 (by decide) hc ?_
  replace hc := ag_cs (i := 3) (v := .int (s0)) hc rfl
  refine gc_iinc d_Rd_readSum_85 rfl (by decide) hc ?_
  replace hc := ag_cs (i := 4) (v := .int ((x4) + Int32.ofInt (1))) hc rfl
  refine ag_goto d_Rd_readSum_88 rfl ?_
  exact ag_dr (ag_d1 rfl (ag_d1 rfl (ag_d1 rfl (ag_d1 rfl (ag_d1 rfl ag_d0))))) (hk10 _ _ _ _ _ _ hyp)
theorem w_Rd_readSum_83 {l : Launch} {G : ag_G} {d N Hk : Nat} {C : Nat × Nat} {a : Nat} {kR : Nat → Option Nat → Int32 → ag_H → Option ((Int32) × ag_H)} (hC : ag_cN G = C.1 ∧ ag_cS G = C.2) (hkR : ∀ (dk : Nat), Hk ≤ dk → ∀ (ua : Nat) (u0 : Option Nat) (u1 : Int32) (hh : ag_H) (res : (Int32) × ag_H), kR ua u0 u1 hh = some res → ag_Met gc_P l G m_Rd_readSum dk [.ref ua, ag_rf u0, .int u1] hh (fun v h' => v = some (.int res.1) ∧ h' = res.2)) (hH : Hk + 2 ≤ d) {k10 : Option Nat → Int32 → Int32 → Int32 → ag_H → Option ((Int32) × ag_H)} (hk10 : ∀ (res : (Int32) × ag_H) (y1 : Option Nat) (y2 : Int32) (y3 : Int32) (y4 : Int32) (hh : ag_H), k10 y1 y2 y3 y4 hh = some res → ag_ev gc_P l G m_Rd_readSum (d + 1) (ag_ret gc_P G (fun v h' => v = some (.int res.1) ∧ h' = res.2)) 10 [(0, .ref a), (1, ag_rf (y1)), (2, .int (y2)), (3, .int (y3)), (4, .int (y4))] [] hh) {x1 : Option Nat} {x2 : Int32} {x4 : Int32} {h : ag_H} {res : (Int32) × ag_H} (hyp : fn_Rd_readSum_83 N C kR a k10 x1 x2 x4 h = some res) : ag_ev gc_P l G m_Rd_readSum (d + 1) (ag_ret gc_P G (fun v h' => v = some (.int res.1) ∧ h' = res.2)) 83 [(0, .ref a), (1, ag_rf (x1)), (2, .int (x2)), (4, .int (x4))] [] h := by
  unfold fn_Rd_readSum_83 at hyp
  have hc : ag_C1 [(0, .ref a), (1, ag_rf (x1)), (2, .int (x2)), (4, .int (x4))] := (ag_c1 rfl (ag_c1 (ag_cat_rf _) (ag_c1 rfl (ag_c1 rfl ag_c0))))
  refine ag_iconst d_Rd_readSum_83 ?_
  exact ag_dr (ag_d1 rfl (ag_d1 rfl (ag_d1 rfl (ag_d1 rfl ag_d0)))) (w_Rd_readSum_84 hC hkR hH hk10 hyp)
theorem w_Rd_readSum_50 {l : Launch} {G : ag_G} {d N Hk : Nat} {C : Nat × Nat} {a : Nat} {kR : Nat → Option Nat → Int32 → ag_H → Option ((Int32) × ag_H)} (hC : ag_cN G = C.1 ∧ ag_cS G = C.2) (hkR : ∀ (dk : Nat), Hk ≤ dk → ∀ (ua : Nat) (u0 : Option Nat) (u1 : Int32) (hh : ag_H) (res : (Int32) × ag_H), kR ua u0 u1 hh = some res → ag_Met gc_P l G m_Rd_readSum dk [.ref ua, ag_rf u0, .int u1] hh (fun v h' => v = some (.int res.1) ∧ h' = res.2)) (hH : Hk + 2 ≤ d) {k10 : Option Nat → Int32 → Int32 → Int32 → ag_H → Option ((Int32) × ag_H)} (hk10 : ∀ (res : (Int32) × ag_H) (y1 : Option Nat) (y2 : Int32) (y3 : Int32) (y4 : Int32) (hh : ag_H), k10 y1 y2 y3 y4 hh = some res → ag_ev gc_P l G m_Rd_readSum (d + 1) (ag_ret gc_P G (fun v h' => v = some (.int res.1) ∧ h' = res.2)) 10 [(0, .ref a), (1, ag_rf (y1)), (2, .int (y2)), (3, .int (y3)), (4, .int (y4))] [] hh) {x1 : Option Nat} {x2 : Int32} {x3 : Int32} {x4 : Int32} {s0 : Int32} {h : ag_H} {res : (Int32) × ag_H} (hyp : fn_Rd_readSum_50 N C kR a k10 x1 x2 x3 x4 s0 h = some res) : ag_ev gc_P l G m_Rd_readSum (d + 1) (ag_ret gc_P G (fun v h' => v = some (.int res.1) ∧ h' = res.2)) 50 [(0, .ref a), (1, ag_rf (x1)), (2, .int (x2)), (3, .int (x3)), (4, .int (x4))] [.int (s0)] h := by
  unfold fn_Rd_readSum_50 at hyp
  have hc : ag_C1 [(0, .ref a), (1, ag_rf (x1)), (2, .int (x2)), (3, .int (x3)), (4, .int (x4))] := (ag_c1 rfl (ag_c1 (ag_cat_rf _) (ag_c1 rfl (ag_c1 rfl (ag_c1 rfl ag_c0)))))
  refine gc_istore d_Rd_readSum_50 (by decide) hc ?_
  replace hc := ag_cs (i := 5) (v := .int (s0)) hc rfl
  refine ag_iload d_Rd_readSum_52 rfl ?_
  refine ag_if_ne d_Rd_readSum_54 rfl (fun q => ?_) (fun q => ?_)
  · replace hyp := md_ifn q hyp
    refine gc_aload_n (r := (some (a))) d_Rd_readSum_60 rfl ?_
    refine gc_aload_n (r := (x1)) d_Rd_readSum_61 rfl ?_
    refine ag_iload_n d_Rd_readSum_62 rfl ?_
    obtain ⟨a7, ea7, hyp⟩ := md_bd hyp
    obtain ⟨r7, er7, hyp⟩ := md_bd hyp
    refine gc_callv (r := (some (a))) (as := [ag_rf (x1), .int (x2)]) d_Rd_readSum_63 ml_Rd_108 gw_438 rfl sl_Rd_readProduct ea7 (Nat.le_of_ble_eq_true rfl) (w_Rd_readProduct hC hkR (d := d) (by omega) er7) (fun v7 h7 q7 => ?_)
    obtain ⟨rfl, rfl⟩ := q7
    refine ag_if_eq d_Rd_readSum_66 rfl (fun q => ?_) (fun q => ?_)
    · replace hyp := md_ifp q hyp
      exact ag_dr (ag_d1 rfl (ag_d1 rfl (ag_d1 rfl (ag_d1 rfl ag_d0)))) (w_Rd_readSum_83 hC hkR hH hk10 hyp)
    · replace hyp := md_ifn q hyp
      refine gc_aload_n (r := (some (a))) d_Rd_readSum_69 rfl ?_
      refine ag_iload d_Rd_readSum_70 rfl ?_
      refine ag_ineg d_Rd_readSum_72 ?_
      obtain ⟨a12, ea12, hyp⟩ := md_bd hyp
      obtain ⟨r12, er12, hyp⟩ := md_bd hyp
      refine gc_callv (r := (some (a))) (as := [.int (-(s0))]) d_Rd_readSum_73 ml_Rd_105 gw_446 rfl sl_Rd_addStep ea12 (Nat.le_of_ble_eq_true rfl) (w_Rd_addStep hC (d := d) (by omega) er12) (fun v12 h12 q12 => ?_)
      obtain ⟨rfl, rfl⟩ := q12
      refine ag_if_eq d_Rd_readSum_76 rfl (fun q => ?_) (fun q => ?_)
      · replace hyp := md_ifp q hyp
        exact ag_dr (ag_d1 rfl (ag_d1 rfl (ag_d1 rfl (ag_d1 rfl ag_d0)))) (w_Rd_readSum_83 hC hkR hH hk10 hyp)
      · replace hyp := md_ifn q hyp
        refine ag_iconst d_Rd_readSum_79 ?_
        refine ag_goto d_Rd_readSum_80 rfl ?_
        exact ag_dr (ag_d1 rfl (ag_d1 rfl (ag_d1 rfl (ag_d1 rfl ag_d0)))) (w_Rd_readSum_84 hC hkR hH hk10 hyp)
  · replace hyp := md_ifp q hyp
    refine ag_goto d_Rd_readSum_57 rfl ?_
    exact ag_dr (ag_d1 rfl (ag_d1 rfl ag_d0)) (w_Rd_readSum_91 hC hkR hH hyp)
theorem w_Rd_readSum_10 {l : Launch} {G : ag_G} {d N Hk : Nat} {C : Nat × Nat} {a : Nat} {kR : Nat → Option Nat → Int32 → ag_H → Option ((Int32) × ag_H)} (hC : ag_cN G = C.1 ∧ ag_cS G = C.2) (hkR : ∀ (dk : Nat), Hk ≤ dk → ∀ (ua : Nat) (u0 : Option Nat) (u1 : Int32) (hh : ag_H) (res : (Int32) × ag_H), kR ua u0 u1 hh = some res → ag_Met gc_P l G m_Rd_readSum dk [.ref ua, ag_rf u0, .int u1] hh (fun v h' => v = some (.int res.1) ∧ h' = res.2)) (hH : Hk + 2 ≤ d) : ∀ (n : Nat) (res : (Int32) × ag_H) (x1 : Option Nat) (x2 : Int32) (x3 : Int32) (x4 : Int32) (h : ag_H) , fn_Rd_readSum_10 N C kR a n x1 x2 x3 x4 h = some res → ag_ev gc_P l G m_Rd_readSum (d + 1) (ag_ret gc_P G (fun v h' => v = some (.int res.1) ∧ h' = res.2)) 10 [(0, .ref a), (1, ag_rf (x1)), (2, .int (x2)), (3, .int (x3)), (4, .int (x4))] [] h := by
  intro n
  induction n with
  | zero =>
    intro res x1 x2 x3 x4 h hyp
    cases hyp
  | succ n ih =>
    intro res x1 x2 x3 x4 h hyp
    rw [fe_Rd_readSum_10] at hyp
    have hc : ag_C1 [(0, .ref a), (1, ag_rf (x1)), (2, .int (x2)), (3, .int (x3)), (4, .int (x4))] := (ag_c1 rfl (ag_c1 (ag_cat_rf _) (ag_c1 rfl (ag_c1 rfl (ag_c1 rfl ag_c0)))))
    refine ag_iload_n d_Rd_readSum_10 rfl ?_
    refine ag_if_eq d_Rd_readSum_11 rfl (fun q => ?_) (fun q => ?_)
    · replace hyp := md_ifp q hyp
      exact ag_dr (ag_d1 rfl (ag_d1 rfl ag_d0)) (w_Rd_readSum_91 hC hkR hH hyp)
    · replace hyp := md_ifn q hyp
      refine ag_iload d_Rd_readSum_14 rfl ?_
      refine ag_bipush d_Rd_readSum_16 ?_
      refine ag_icmp_ge d_Rd_readSum_18 rfl (fun q => ?_) (fun q => ?_)
      · replace hyp := md_ifp q hyp
        exact ag_dr (ag_d1 rfl (ag_d1 rfl ag_d0)) (w_Rd_readSum_91 hC hkR hH hyp)
      · replace hyp := md_ifn q hyp
        refine gc_aload_n (r := (x1)) d_Rd_readSum_21 rfl ?_
        refine ag_bipush d_Rd_readSum_22 ?_
        obtain ⟨a8, ea8, hyp⟩ := md_bd hyp
        obtain ⟨r8, er8, hyp⟩ := md_bd hyp
        refine gc_callv (r := (x1)) (as := [.int ((Int8.ofInt (43)).toInt32)]) d_Rd_readSum_24 ml_Rd_44 gw_295 rfl sl_Ln_takes ea8 (Nat.le_of_ble_eq_true rfl) (w_Ln_takes hC (d := d) (by omega) er8) (fun v8 h8 q8 => ?_)
        obtain ⟨rfl, rfl⟩ := q8
        refine ag_if_eq d_Rd_readSum_27 rfl (fun q => ?_) (fun q => ?_)
        · replace hyp := md_ifp q hyp
          refine gc_aload_n (r := (x1)) d_Rd_readSum_35 rfl ?_
          refine ag_bipush d_Rd_readSum_36 ?_
          obtain ⟨a12, ea12, hyp⟩ := md_bd hyp
          obtain ⟨r12, er12, hyp⟩ := md_bd hyp
          refine gc_callv (r := (x1)) (as := [.int ((Int8.ofInt (45)).toInt32)]) d_Rd_readSum_38 ml_Rd_44 gw_295 rfl sl_Ln_takes ea12 (Nat.le_of_ble_eq_true rfl) (w_Ln_takes hC (d := d) (by omega) er12) (fun v12 h12 q12 => ?_)
          obtain ⟨rfl, rfl⟩ := q12
          refine ag_if_eq d_Rd_readSum_41 rfl (fun q => ?_) (fun q => ?_)
          · replace hyp := md_ifp q hyp
            refine ag_iconst d_Rd_readSum_49 ?_
            exact ag_dr (ag_d1 rfl (ag_d1 rfl (ag_d1 rfl (ag_d1 rfl (ag_d1 rfl ag_d0))))) (w_Rd_readSum_50 hC hkR hH ih hyp)
          · replace hyp := md_ifn q hyp
            refine ag_bipush d_Rd_readSum_44 ?_
            refine ag_goto d_Rd_readSum_46 rfl ?_
            exact ag_dr (ag_d1 rfl (ag_d1 rfl (ag_d1 rfl (ag_d1 rfl (ag_d1 rfl ag_d0))))) (w_Rd_readSum_50 hC hkR hH ih hyp)
        · replace hyp := md_ifn q hyp
          refine ag_bipush d_Rd_readSum_30 ?_
          refine ag_goto d_Rd_readSum_32 rfl ?_
          exact ag_dr (ag_d1 rfl (ag_d1 rfl (ag_d1 rfl (ag_d1 rfl (ag_d1 rfl ag_d0))))) (w_Rd_readSum_50 hC hkR hH ih hyp)
theorem w_Rd_readSum_0 {l : Launch} {G : ag_G} {d N Hk : Nat} {C : Nat × Nat} {a : Nat} {kR : Nat → Option Nat → Int32 → ag_H → Option ((Int32) × ag_H)} (hC : ag_cN G = C.1 ∧ ag_cS G = C.2) (hkR : ∀ (dk : Nat), Hk ≤ dk → ∀ (ua : Nat) (u0 : Option Nat) (u1 : Int32) (hh : ag_H) (res : (Int32) × ag_H), kR ua u0 u1 hh = some res → ag_Met gc_P l G m_Rd_readSum dk [.ref ua, ag_rf u0, .int u1] hh (fun v h' => v = some (.int res.1) ∧ h' = res.2)) (hH : Hk + 2 ≤ d) {x1 : Option Nat} {x2 : Int32} {h : ag_H} {res : (Int32) × ag_H} (hyp : fn_Rd_readSum_0 N C kR a x1 x2 h = some res) : ag_ev gc_P l G m_Rd_readSum (d + 1) (ag_ret gc_P G (fun v h' => v = some (.int res.1) ∧ h' = res.2)) 0 [(0, .ref a), (1, ag_rf (x1)), (2, .int (x2))] [] h := by
  unfold fn_Rd_readSum_0 at hyp
  have hc : ag_C1 [(0, .ref a), (1, ag_rf (x1)), (2, .int (x2))] := (ag_c1 rfl (ag_c1 (ag_cat_rf _) (ag_c1 rfl ag_c0)))
  refine gc_aload_n (r := (some (a))) d_Rd_readSum_0 rfl ?_
  refine gc_aload_n (r := (x1)) d_Rd_readSum_1 rfl ?_
  refine ag_iload_n d_Rd_readSum_2 rfl ?_
  obtain ⟨a4, ea4, hyp⟩ := md_bd hyp
  obtain ⟨r4, er4, hyp⟩ := md_bd hyp
  refine gc_callv (r := (some (a))) (as := [ag_rf (x1), .int (x2)]) d_Rd_readSum_3 ml_Rd_108 gw_438 rfl sl_Rd_readProduct ea4 (Nat.le_of_ble_eq_true rfl) (w_Rd_readProduct hC hkR (d := d) (by omega) er4) (fun v4 h4 q4 => ?_)
  obtain ⟨rfl, rfl⟩ := q4
  refine gc_istore_n d_Rd_readSum_6 (by decide) hc ?_
  replace hc := ag_cs (i := 3) (v := .int (r4.1)) hc rfl
  refine ag_iconst d_Rd_readSum_7 ?_
  refine gc_istore d_Rd_readSum_8 (by decide) hc ?_
  replace hc := ag_cs (i := 4) (v := .int (Int32.ofInt 0)) hc rfl
  exact ag_dr (ag_d1 rfl (ag_d1 rfl (ag_d1 rfl (ag_d1 rfl (ag_d1 rfl ag_d0))))) (w_Rd_readSum_10 hC hkR hH N _ _ _ _ _ _ hyp)
theorem w_Rd_readSum {l : Launch} {G : ag_G} {d N Hk : Nat} {C : Nat × Nat} {kR : Nat → Option Nat → Int32 → ag_H → Option ((Int32) × ag_H)} (hC : ag_cN G = C.1 ∧ ag_cS G = C.2) (hkR : ∀ (dk : Nat), Hk ≤ dk → ∀ (ua : Nat) (u0 : Option Nat) (u1 : Int32) (hh : ag_H) (res : (Int32) × ag_H), kR ua u0 u1 hh = some res → ag_Met gc_P l G m_Rd_readSum dk [.ref ua, ag_rf u0, .int u1] hh (fun v h' => v = some (.int res.1) ∧ h' = res.2)) (hH : Hk + 2 + 1 ≤ d) {a : Nat} {p1 : Option Nat} {p2 : Int32} {h : ag_H} {res : (Int32) × ag_H} (hyp : fn_Rd_readSum N C kR a p1 p2 h = some res) : ag_Met gc_P l G m_Rd_readSum d [.ref a, ag_rf (p1), .int (p2)] h (fun v h' => v = some (.int res.1) ∧ h' = res.2) := by
  obtain ⟨d, rfl, hG⟩ := md_dd hH
  exact ag_met0 (by decide) rfl (ag_v1 rfl (ag_v1 (ag_cat_rf _) (ag_v1 rfl ag_v0))) (Nat.le_of_ble_eq_true rfl) (ag_dr (ag_d1 rfl (ag_d1 rfl (ag_d1 rfl ag_d0))) (w_Rd_readSum_0 hC hkR hG hyp))
def fn_Rd_readSumR (N : Nat) (C : Nat × Nat) : Nat → Nat → Option Nat → Int32 → ag_H → Option ((Int32) × ag_H)
  | 0, _, _, _, _ => none
  | n + 1, a, p1, p2, h => fn_Rd_readSum N C (fn_Rd_readSumR N C n) a p1 p2 h
theorem w_Rd_readSumR {l : Launch} {G : ag_G} {N : Nat} {C : Nat × Nat} (hC : ag_cN G = C.1 ∧ ag_cS G = C.2) : ∀ (n : Nat) (d : Nat), 3 * n ≤ d → ∀ (a : Nat) (p1 : Option Nat) (p2 : Int32) (h : ag_H) (res : (Int32) × ag_H), fn_Rd_readSumR N C n a p1 p2 h = some res → ag_Met gc_P l G m_Rd_readSum d [.ref a, ag_rf (p1), .int (p2)] h (fun v h' => v = some (.int res.1) ∧ h' = res.2)
  | 0, _, _, _, _, _, _, _, hyp => by cases hyp
  | n + 1, d, hd, a, p1, p2, h, res, hyp => w_Rd_readSum (Hk := 3 * n) hC (fun dk hk u0 u1 u2 u3 r hy => w_Rd_readSumR hC n dk hk u0 u1 u2 u3 r hy) (by omega) hyp
def fn_GC_isComparison_29 (N : Nat) (C : Nat × Nat) (s0 : Int32) (h : ag_H) : Option ((Int32) × ag_H) := if md_01 (s0) = true then (some ((s0), h)) else none
def fn_GC_isComparison_24 (N : Nat) (C : Nat × Nat) (h : ag_H) : Option ((Int32) × ag_H) := fn_GC_isComparison_29 N C (Int32.ofInt 1) h
def fn_GC_isComparison_0 (N : Nat) (C : Nat × Nat) (x0 : Int32) (h : ag_H) : Option ((Int32) × ag_H) := if (x0) = ((Int8.ofInt (60)).toInt32) then (fn_GC_isComparison_24 N C  h) else (if (x0) = ((Int8.ofInt (62)).toInt32) then (fn_GC_isComparison_24 N C  h) else (if (x0) = ((Int8.ofInt (61)).toInt32) then (fn_GC_isComparison_24 N C  h) else (if (x0) = ((Int8.ofInt (35)).toInt32) then (fn_GC_isComparison_24 N C  h) else (fn_GC_isComparison_29 N C (Int32.ofInt 0) h))))
def fn_GC_isComparison (N : Nat) (C : Nat × Nat) (p0 : Int32) (h : ag_H) : Option ((Int32) × ag_H) := fn_GC_isComparison_0 N C p0 h
theorem w_GC_isComparison_29 {l : Launch} {G : ag_G} {d N : Nat} {C : Nat × Nat} (hC : ag_cN G = C.1 ∧ ag_cS G = C.2) {s0 : Int32} {h : ag_H} {res : (Int32) × ag_H} (hyp : fn_GC_isComparison_29 N C s0 h = some res) : ag_ev gc_P l G m_GC_isComparison (d) (ag_ret gc_P G (fun v h' => v = some (.int res.1) ∧ h' = res.2)) 29 [] [.int (s0)] h := by
  unfold fn_GC_isComparison_29 at hyp
  have hc : ag_C1 [] := ag_c0
  obtain ⟨q1, hyp⟩ := md_ifs hyp
  cases hyp
  exact ag_iret d_GC_isComparison_29 rfl (md_01n q1) ⟨rfl, rfl⟩
theorem w_GC_isComparison_24 {l : Launch} {G : ag_G} {d N : Nat} {C : Nat × Nat} (hC : ag_cN G = C.1 ∧ ag_cS G = C.2) {h : ag_H} {res : (Int32) × ag_H} (hyp : fn_GC_isComparison_24 N C h = some res) : ag_ev gc_P l G m_GC_isComparison (d) (ag_ret gc_P G (fun v h' => v = some (.int res.1) ∧ h' = res.2)) 24 [] [] h := by
  unfold fn_GC_isComparison_24 at hyp
  have hc : ag_C1 [] := ag_c0
  refine ag_iconst d_GC_isComparison_24 ?_
  refine ag_goto d_GC_isComparison_25 rfl ?_
  exact ag_dr ag_d0 (w_GC_isComparison_29 hC hyp)
theorem w_GC_isComparison_0 {l : Launch} {G : ag_G} {d N : Nat} {C : Nat × Nat} (hC : ag_cN G = C.1 ∧ ag_cS G = C.2) {x0 : Int32} {h : ag_H} {res : (Int32) × ag_H} (hyp : fn_GC_isComparison_0 N C x0 h = some res) : ag_ev gc_P l G m_GC_isComparison (d) (ag_ret gc_P G (fun v h' => v = some (.int res.1) ∧ h' = res.2)) 0 [(0, .int (x0))] [] h := by
  unfold fn_GC_isComparison_0 at hyp
  have hc : ag_C1 [(0, .int (x0))] := (ag_c1 rfl ag_c0)
  refine ag_iload_n d_GC_isComparison_0 rfl ?_
  refine ag_bipush d_GC_isComparison_1 ?_
  refine ag_icmp_eq d_GC_isComparison_3 rfl (fun q => ?_) (fun q => ?_)
  · replace hyp := md_ifp q hyp
    exact ag_dr ag_d0 (w_GC_isComparison_24 hC hyp)
  · replace hyp := md_ifn q hyp
    refine ag_iload_n d_GC_isComparison_6 rfl ?_
    refine ag_bipush d_GC_isComparison_7 ?_
    refine ag_icmp_eq d_GC_isComparison_9 rfl (fun q => ?_) (fun q => ?_)
    · replace hyp := md_ifp q hyp
      exact ag_dr ag_d0 (w_GC_isComparison_24 hC hyp)
    · replace hyp := md_ifn q hyp
      refine ag_iload_n d_GC_isComparison_12 rfl ?_
      refine ag_bipush d_GC_isComparison_13 ?_
      refine ag_icmp_eq d_GC_isComparison_15 rfl (fun q => ?_) (fun q => ?_)
      · replace hyp := md_ifp q hyp
        exact ag_dr ag_d0 (w_GC_isComparison_24 hC hyp)
      · replace hyp := md_ifn q hyp
        refine ag_iload_n d_GC_isComparison_18 rfl ?_
        refine ag_bipush d_GC_isComparison_19 ?_
        refine ag_icmp_ne d_GC_isComparison_21 rfl (fun q => ?_) (fun q => ?_)
        · replace hyp := md_ifn q hyp
          refine ag_iconst d_GC_isComparison_28 ?_
          exact ag_dr ag_d0 (w_GC_isComparison_29 hC hyp)
        · replace hyp := md_ifp q hyp
          exact ag_dr ag_d0 (w_GC_isComparison_24 hC hyp)
theorem w_GC_isComparison {l : Launch} {G : ag_G} {d N : Nat} {C : Nat × Nat} (hC : ag_cN G = C.1 ∧ ag_cS G = C.2) (hH : 0 ≤ d) {p0 : Int32} {h : ag_H} {res : (Int32) × ag_H} (hyp : fn_GC_isComparison N C p0 h = some res) : ag_Met gc_P l G m_GC_isComparison d [.int (p0)] h (fun v h' => v = some (.int res.1) ∧ h' = res.2) := by
  exact ag_met (by decide) rfl (Nat.le_of_ble_eq_true rfl) (ag_dr (ag_d1 rfl ag_d0) (w_GC_isComparison_0 hC hyp))
def fn_Rd_readComparison_58 (N : Nat) (C : Nat × Nat) (a : Nat) (s0 : Int32) (h : ag_H) : Option ((Int32) × ag_H) := if md_01 (s0) = true then (some ((s0), h)) else none
def fn_Rd_readComparison_57 (N : Nat) (C : Nat × Nat) (a : Nat) (h : ag_H) : Option ((Int32) × ag_H) := fn_Rd_readComparison_58 N C a (Int32.ofInt 0) h
def fn_Rd_readComparison_0 (N : Nat) (C : Nat × Nat) (a : Nat) (x1 : Option Nat) (h : ag_H) : Option ((Int32) × ag_H) := (ag_rc h (some (a)) 2).bind fun a4 => (fn_Rd_readSumR N C 6 a4 (x1) (Int32.ofInt 0) h).bind fun r4 => if (r4.1) = (0) then (if md_01 (Int32.ofInt 0) = true then (some ((Int32.ofInt 0), r4.2)) else none) else ((ag_rc r4.2 (x1) 1).bind fun a7 => (fn_Ln_sign N C a7  r4.2).bind fun r7 => (fn_GC_isComparison N C (r7.1) r7.2).bind fun r10 => if (r10.1) = (0) then (if md_01 (Int32.ofInt 0) = true then (some ((Int32.ofInt 0), r10.2)) else none) else ((ag_gi r10.2 (x1) 1 2).bind fun g14 => (ag_pf r10.2 (ag_rf (x1)) 1 2 .int (.int ((g14) + (Int32.ofInt 1)))).bind fun h17 => (ag_rc h17 (some (a)) 2).bind fun a21 => (fn_Rd_readSumR N C 6 a21 (x1) (Int32.ofInt 0) h17).bind fun r21 => if (r21.1) = (0) then (fn_Rd_readComparison_57 N C a  r21.2) else ((ag_rc r21.2 (some (a)) 2).bind fun a26 => (fn_Rd_addStep N C a26 (-(r7.1)) r21.2).bind fun r26 => if (r26.1) = (0) then (fn_Rd_readComparison_57 N C a  r26.2) else (fn_Rd_readComparison_58 N C a (Int32.ofInt 1) r26.2))))
def fn_Rd_readComparison (N : Nat) (C : Nat × Nat) (a : Nat) (p1 : Option Nat) (h : ag_H) : Option ((Int32) × ag_H) := fn_Rd_readComparison_0 N C a p1 h
theorem w_Rd_readComparison_58 {l : Launch} {G : ag_G} {d N : Nat} {C : Nat × Nat} {a : Nat} (hC : ag_cN G = C.1 ∧ ag_cS G = C.2) (hH : 18 ≤ d) {s0 : Int32} {h : ag_H} {res : (Int32) × ag_H} (hyp : fn_Rd_readComparison_58 N C a s0 h = some res) : ag_ev gc_P l G m_Rd_readComparison (d + 1) (ag_ret gc_P G (fun v h' => v = some (.int res.1) ∧ h' = res.2)) 58 [(0, .ref a)] [.int (s0)] h := by
  unfold fn_Rd_readComparison_58 at hyp
  have hc : ag_C1 [(0, .ref a)] := (ag_c1 rfl ag_c0)
  obtain ⟨q1, hyp⟩ := md_ifs hyp
  cases hyp
  exact ag_iret d_Rd_readComparison_58 rfl (md_01n q1) ⟨rfl, rfl⟩
theorem w_Rd_readComparison_57 {l : Launch} {G : ag_G} {d N : Nat} {C : Nat × Nat} {a : Nat} (hC : ag_cN G = C.1 ∧ ag_cS G = C.2) (hH : 18 ≤ d) {h : ag_H} {res : (Int32) × ag_H} (hyp : fn_Rd_readComparison_57 N C a h = some res) : ag_ev gc_P l G m_Rd_readComparison (d + 1) (ag_ret gc_P G (fun v h' => v = some (.int res.1) ∧ h' = res.2)) 57 [(0, .ref a)] [] h := by
  unfold fn_Rd_readComparison_57 at hyp
  have hc : ag_C1 [(0, .ref a)] := (ag_c1 rfl ag_c0)
  refine ag_iconst d_Rd_readComparison_57 ?_
  exact ag_dr (ag_d1 rfl ag_d0) (w_Rd_readComparison_58 hC hH hyp)
theorem w_Rd_readComparison_0 {l : Launch} {G : ag_G} {d N : Nat} {C : Nat × Nat} {a : Nat} (hC : ag_cN G = C.1 ∧ ag_cS G = C.2) (hH : 18 ≤ d) {x1 : Option Nat} {h : ag_H} {res : (Int32) × ag_H} (hyp : fn_Rd_readComparison_0 N C a x1 h = some res) : ag_ev gc_P l G m_Rd_readComparison (d + 1) (ag_ret gc_P G (fun v h' => v = some (.int res.1) ∧ h' = res.2)) 0 [(0, .ref a), (1, ag_rf (x1))] [] h := by
  unfold fn_Rd_readComparison_0 at hyp
  have hc : ag_C1 [(0, .ref a), (1, ag_rf (x1))] := (ag_c1 rfl (ag_c1 (ag_cat_rf _) ag_c0))
  refine gc_aload_n (r := (some (a))) d_Rd_readComparison_0 rfl ?_
  refine gc_aload_n (r := (x1)) d_Rd_readComparison_1 rfl ?_
  refine ag_iconst d_Rd_readComparison_2 ?_
  obtain ⟨a4, ea4, hyp⟩ := md_bd hyp
  obtain ⟨r4, er4, hyp⟩ := md_bd hyp
  refine gc_callv (r := (some (a))) (as := [ag_rf (x1), .int (Int32.ofInt 0)]) d_Rd_readComparison_3 ml_Rd_97 gw_434 rfl sl_Rd_readSum ea4 (Nat.le_of_ble_eq_true rfl) (w_Rd_readSumR hC 6 d (by omega) _ _ _ _ _ er4) (fun v4 h4 q4 => ?_)
  obtain ⟨rfl, rfl⟩ := q4
  refine ag_if_ne d_Rd_readComparison_6 rfl (fun q => ?_) (fun q => ?_)
  · replace hyp := md_ifn q hyp
    refine gc_aload_n (r := (x1)) d_Rd_readComparison_11 rfl ?_
    obtain ⟨a7, ea7, hyp⟩ := md_bd hyp
    obtain ⟨r7, er7, hyp⟩ := md_bd hyp
    refine gc_callv (r := (x1)) (as := []) d_Rd_readComparison_12 ml_Rd_55 gw_299 rfl sl_Ln_sign ea7 (Nat.le_of_ble_eq_true rfl) (w_Ln_sign hC (d := d) (by omega) er7) (fun v7 h7 q7 => ?_)
    obtain ⟨rfl, rfl⟩ := q7
    refine gc_istore_n d_Rd_readComparison_15 (by decide) hc ?_
    replace hc := ag_cs (i := 2) (v := .int (r7.1)) hc rfl
    refine ag_iload_n d_Rd_readComparison_16 rfl ?_
    obtain ⟨r10, er10, hyp⟩ := md_bd hyp
    refine ag_calls (as := [.int (r7.1)]) d_Rd_readComparison_17 ml_Rd_101 gw_453 (Nat.le_of_ble_eq_true rfl) (w_GC_isComparison hC (d := d) (by omega) er10) (fun v10 h10 q10 => ?_)
    obtain ⟨rfl, rfl⟩ := q10
    refine ag_if_ne d_Rd_readComparison_20 rfl (fun q => ?_) (fun q => ?_)
    · replace hyp := md_ifn q hyp
      refine gc_aload_n (r := (x1)) d_Rd_readComparison_25 rfl ?_
      refine ag_dup d_Rd_readComparison_26 (ag_cat_rf _) ?_
      obtain ⟨g14, eg14, hyp⟩ := md_bd hyp
      refine gc_geti (r := (x1)) d_Rd_readComparison_27 fr_Rd_15 eg14 ?_
      refine ag_iconst d_Rd_readComparison_30 ?_
      refine ag_iadd d_Rd_readComparison_31 ?_
      obtain ⟨h17, eh17, hyp⟩ := md_bd hyp
      refine gc_putf (r := (x1)) d_Rd_readComparison_32 fl_Rd_15 (fun q => by cases q) eh17 ?_
      refine gc_aload_n (r := (some (a))) d_Rd_readComparison_35 rfl ?_
      refine gc_aload_n (r := (x1)) d_Rd_readComparison_36 rfl ?_
      refine ag_iconst d_Rd_readComparison_37 ?_
      obtain ⟨a21, ea21, hyp⟩ := md_bd hyp
      obtain ⟨r21, er21, hyp⟩ := md_bd hyp
      refine gc_callv (r := (some (a))) (as := [ag_rf (x1), .int (Int32.ofInt 0)]) d_Rd_readComparison_38 ml_Rd_97 gw_434 rfl sl_Rd_readSum ea21 (Nat.le_of_ble_eq_true rfl) (w_Rd_readSumR hC 6 d (by omega) _ _ _ _ _ er21) (fun v21 h21 q21 => ?_)
      obtain ⟨rfl, rfl⟩ := q21
      refine ag_if_eq d_Rd_readComparison_41 rfl (fun q => ?_) (fun q => ?_)
      · replace hyp := md_ifp q hyp
        exact ag_dr (ag_d1 rfl ag_d0) (w_Rd_readComparison_57 hC hH hyp)
      · replace hyp := md_ifn q hyp
        refine gc_aload_n (r := (some (a))) d_Rd_readComparison_44 rfl ?_
        refine ag_iload_n d_Rd_readComparison_45 rfl ?_
        refine ag_ineg d_Rd_readComparison_46 ?_
        obtain ⟨a26, ea26, hyp⟩ := md_bd hyp
        obtain ⟨r26, er26, hyp⟩ := md_bd hyp
        refine gc_callv (r := (some (a))) (as := [.int (-(r7.1))]) d_Rd_readComparison_47 ml_Rd_105 gw_446 rfl sl_Rd_addStep ea26 (Nat.le_of_ble_eq_true rfl) (w_Rd_addStep hC (d := d) (by omega) er26) (fun v26 h26 q26 => ?_)
        obtain ⟨rfl, rfl⟩ := q26
        refine ag_if_eq d_Rd_readComparison_50 rfl (fun q => ?_) (fun q => ?_)
        · replace hyp := md_ifp q hyp
          exact ag_dr (ag_d1 rfl ag_d0) (w_Rd_readComparison_57 hC hH hyp)
        · replace hyp := md_ifn q hyp
          refine ag_iconst d_Rd_readComparison_53 ?_
          refine ag_goto d_Rd_readComparison_54 rfl ?_
          exact ag_dr (ag_d1 rfl ag_d0) (w_Rd_readComparison_58 hC hH hyp)
    · replace hyp := md_ifp q hyp
      refine ag_iconst d_Rd_readComparison_23 ?_
      obtain ⟨q31, hyp⟩ := md_ifs hyp
      cases hyp
      exact ag_iret d_Rd_readComparison_24 rfl (md_01n q31) ⟨rfl, rfl⟩
  · replace hyp := md_ifp q hyp
    refine ag_iconst d_Rd_readComparison_9 ?_
    obtain ⟨q33, hyp⟩ := md_ifs hyp
    cases hyp
    exact ag_iret d_Rd_readComparison_10 rfl (md_01n q33) ⟨rfl, rfl⟩
theorem w_Rd_readComparison {l : Launch} {G : ag_G} {d N : Nat} {C : Nat × Nat} (hC : ag_cN G = C.1 ∧ ag_cS G = C.2) (hH : 18 + 1 ≤ d) {a : Nat} {p1 : Option Nat} {h : ag_H} {res : (Int32) × ag_H} (hyp : fn_Rd_readComparison N C a p1 h = some res) : ag_Met gc_P l G m_Rd_readComparison d [.ref a, ag_rf (p1)] h (fun v h' => v = some (.int res.1) ∧ h' = res.2) := by
  obtain ⟨d, rfl, hG⟩ := md_dd hH
  exact ag_met0 (by decide) rfl (ag_v1 rfl (ag_v1 (ag_cat_rf _) ag_v0)) (Nat.le_of_ble_eq_true rfl) (ag_dr (ag_d1 rfl (ag_d1 rfl ag_d0)) (w_Rd_readComparison_0 hC hG hyp))
def fn_Rd_readBody_75 (N : Nat) (C : Nat × Nat) (a : Nat) : Nat → Option Nat → Int32 → ag_H → Option ((Int32) × ag_H)
  | 0, _, _, _ => none
  | n + 1, x1, x3, h => if (Int32.ofInt 2) ≤ (x3) then (if md_01 (Int32.ofInt 0) = true then (some ((Int32.ofInt 0), h)) else none) else ((ag_rc h (some (a)) 2).bind fun a8 => (fn_Rd_readComparison N C a8 (x1) h).bind fun r8 => if (r8.1) = (0) then (if md_01 (Int32.ofInt 0) = true then (some ((Int32.ofInt 0), r8.2)) else none) else ((ag_rc r8.2 (x1) 1).bind fun a12 => (fn_Ln_takes N C a12 ((Int8.ofInt (44)).toInt32) r8.2).bind fun r12 => if (r12.1) = (0) then (if md_01 (Int32.ofInt 1) = true then (some ((Int32.ofInt 1), r12.2)) else none) else (fn_Rd_readBody_75 N C a n (x1) ((x3) + Int32.ofInt (1)) r12.2)))
theorem fe_Rd_readBody_75 (N : Nat) (C : Nat × Nat) (a : Nat) (n : Nat) (x1 : Option Nat) (x3 : Int32) (h : ag_H) : fn_Rd_readBody_75 N C a (n + 1) x1 x3 h = (if (Int32.ofInt 2) ≤ (x3) then (if md_01 (Int32.ofInt 0) = true then (some ((Int32.ofInt 0), h)) else none) else ((ag_rc h (some (a)) 2).bind fun a8 => (fn_Rd_readComparison N C a8 (x1) h).bind fun r8 => if (r8.1) = (0) then (if md_01 (Int32.ofInt 0) = true then (some ((Int32.ofInt 0), r8.2)) else none) else ((ag_rc r8.2 (x1) 1).bind fun a12 => (fn_Ln_takes N C a12 ((Int8.ofInt (44)).toInt32) r8.2).bind fun r12 => if (r12.1) = (0) then (if md_01 (Int32.ofInt 1) = true then (some ((Int32.ofInt 1), r12.2)) else none) else (fn_Rd_readBody_75 N C a n (x1) ((x3) + Int32.ofInt (1)) r12.2)))) := rfl
def fn_Rd_readBody_73 (N : Nat) (C : Nat × Nat) (a : Nat) (x1 : Option Nat) (h : ag_H) : Option ((Int32) × ag_H) := fn_Rd_readBody_75 N C a N (x1) (Int32.ofInt 0) h
def fn_Rd_readBody_2 (N : Nat) (C : Nat × Nat) (a : Nat) : Nat → Option Nat → Option Nat → Int32 → ag_H → Option ((Int32) × ag_H)
  | 0, _, _, _, _ => none
  | n + 1, x1, x2, x3, h => if (Int32.ofInt 3) ≤ (x3) then (fn_Rd_readBody_73 N C a (x1) h) else ((fn_Rd_readAtom N C (x1) h).bind fun r5 => if ((r5.1)) = none then (if md_01 (Int32.ofInt 0) = true then (some ((Int32.ofInt 0), r5.2)) else none) else ((ag_rc r5.2 (x2) 11).bind fun a11 => (fn_AL_add N C a11 ((r5.1)) r5.2).bind fun r11 => (ag_gi r11.2 (some (a)) 2 3).bind fun g15 => (ag_rc r11.2 ((r5.1)) 6).bind fun a17 => (fn_At_variables N C a17  r11.2).bind fun r17 => (ag_pf r17.2 (ag_rf (some (a))) 2 3 .int (.int ((g15) ||| (r17.1)))).bind fun h19 => (ag_rc h19 (x1) 1).bind fun a22 => (fn_Ln_takes N C a22 ((Int8.ofInt (44)).toInt32) h19).bind fun r22 => if (r22.1) = (0) then (if md_01 (Int32.ofInt 1) = true then (some ((Int32.ofInt 1), r22.2)) else none) else ((ag_rc r22.2 (x1) 1).bind fun a25 => (fn_Ln_sign N C a25  r22.2).bind fun r25 => (fn_Rd_isName N C (r25.1) r25.2).bind fun r26 => if (r26.1) = (0) then (fn_Rd_readBody_73 N C a (x1) r26.2) else (fn_Rd_readBody_2 N C a n (x1) (x2) ((x3) + Int32.ofInt (1)) r26.2))))
theorem fe_Rd_readBody_2 (N : Nat) (C : Nat × Nat) (a : Nat) (n : Nat) (x1 : Option Nat) (x2 : Option Nat) (x3 : Int32) (h : ag_H) : fn_Rd_readBody_2 N C a (n + 1) x1 x2 x3 h = (if (Int32.ofInt 3) ≤ (x3) then (fn_Rd_readBody_73 N C a (x1) h) else ((fn_Rd_readAtom N C (x1) h).bind fun r5 => if ((r5.1)) = none then (if md_01 (Int32.ofInt 0) = true then (some ((Int32.ofInt 0), r5.2)) else none) else ((ag_rc r5.2 (x2) 11).bind fun a11 => (fn_AL_add N C a11 ((r5.1)) r5.2).bind fun r11 => (ag_gi r11.2 (some (a)) 2 3).bind fun g15 => (ag_rc r11.2 ((r5.1)) 6).bind fun a17 => (fn_At_variables N C a17  r11.2).bind fun r17 => (ag_pf r17.2 (ag_rf (some (a))) 2 3 .int (.int ((g15) ||| (r17.1)))).bind fun h19 => (ag_rc h19 (x1) 1).bind fun a22 => (fn_Ln_takes N C a22 ((Int8.ofInt (44)).toInt32) h19).bind fun r22 => if (r22.1) = (0) then (if md_01 (Int32.ofInt 1) = true then (some ((Int32.ofInt 1), r22.2)) else none) else ((ag_rc r22.2 (x1) 1).bind fun a25 => (fn_Ln_sign N C a25  r22.2).bind fun r25 => (fn_Rd_isName N C (r25.1) r25.2).bind fun r26 => if (r26.1) = (0) then (fn_Rd_readBody_73 N C a (x1) r26.2) else (fn_Rd_readBody_2 N C a n (x1) (x2) ((x3) + Int32.ofInt (1)) r26.2))))) := rfl
def fn_Rd_readBody_0 (N : Nat) (C : Nat × Nat) (a : Nat) (x1 : Option Nat) (x2 : Option Nat) (h : ag_H) : Option ((Int32) × ag_H) := fn_Rd_readBody_2 N C a N (x1) (x2) (Int32.ofInt 0) h
def fn_Rd_readBody (N : Nat) (C : Nat × Nat) (a : Nat) (p1 : Option Nat) (p2 : Option Nat) (h : ag_H) : Option ((Int32) × ag_H) := fn_Rd_readBody_0 N C a p1 p2 h
theorem w_Rd_readBody_75 {l : Launch} {G : ag_G} {d N : Nat} {C : Nat × Nat} {a : Nat} (hC : ag_cN G = C.1 ∧ ag_cS G = C.2) (hH : 19 ≤ d) : ∀ (n : Nat) (res : (Int32) × ag_H) (x1 : Option Nat) (x3 : Int32) (h : ag_H) , fn_Rd_readBody_75 N C a n x1 x3 h = some res → ag_ev gc_P l G m_Rd_readBody (d + 1) (ag_ret gc_P G (fun v h' => v = some (.int res.1) ∧ h' = res.2)) 75 [(0, .ref a), (1, ag_rf (x1)), (3, .int (x3))] [] h := by
  intro n
  induction n with
  | zero =>
    intro res x1 x3 h hyp
    cases hyp
  | succ n ih =>
    intro res x1 x3 h hyp
    rw [fe_Rd_readBody_75] at hyp
    have hc : ag_C1 [(0, .ref a), (1, ag_rf (x1)), (3, .int (x3))] := (ag_c1 rfl (ag_c1 (ag_cat_rf _) (ag_c1 rfl ag_c0)))
    refine ag_iload_n d_Rd_readBody_75 rfl ?_
    refine ag_iconst d_Rd_readBody_76 ?_
    refine ag_icmp_ge d_Rd_readBody_77 rfl (fun q => ?_) (fun q => ?_)
    · replace hyp := md_ifp q hyp
      refine ag_iconst d_Rd_readBody_107 ?_
      obtain ⟨q5, hyp⟩ := md_ifs hyp
      cases hyp
      exact ag_iret d_Rd_readBody_108 rfl (md_01n q5) ⟨rfl, rfl⟩
    · replace hyp := md_ifn q hyp
      refine gc_aload_n (r := (some (a))) d_Rd_readBody_80 rfl ?_
      refine gc_aload_n (r := (x1)) d_Rd_readBody_81 rfl ?_
      obtain ⟨a8, ea8, hyp⟩ := md_bd hyp
      obtain ⟨r8, er8, hyp⟩ := md_bd hyp
      refine gc_callv (r := (some (a))) (as := [ag_rf (x1)]) d_Rd_readBody_82 ml_Rd_93 gw_430 rfl sl_Rd_readComparison ea8 (Nat.le_of_ble_eq_true rfl) (w_Rd_readComparison hC (d := d) (by omega) er8) (fun v8 h8 q8 => ?_)
      obtain ⟨rfl, rfl⟩ := q8
      refine ag_if_ne d_Rd_readBody_85 rfl (fun q => ?_) (fun q => ?_)
      · replace hyp := md_ifn q hyp
        refine gc_aload_n (r := (x1)) d_Rd_readBody_90 rfl ?_
        refine ag_bipush d_Rd_readBody_91 ?_
        obtain ⟨a12, ea12, hyp⟩ := md_bd hyp
        obtain ⟨r12, er12, hyp⟩ := md_bd hyp
        refine gc_callv (r := (x1)) (as := [.int ((Int8.ofInt (44)).toInt32)]) d_Rd_readBody_93 ml_Rd_44 gw_295 rfl sl_Ln_takes ea12 (Nat.le_of_ble_eq_true rfl) (w_Ln_takes hC (d := d) (by omega) er12) (fun v12 h12 q12 => ?_)
        obtain ⟨rfl, rfl⟩ := q12
        refine ag_if_ne d_Rd_readBody_96 rfl (fun q => ?_) (fun q => ?_)
        · replace hyp := md_ifn q hyp
          refine gc_iinc d_Rd_readBody_101 rfl (by decide) hc ?_
          replace hc := ag_cs (i := 3) (v := .int ((x3) + Int32.ofInt (1))) hc rfl
          refine ag_goto d_Rd_readBody_104 rfl ?_
          exact ag_dr (ag_d1 rfl (ag_d1 rfl (ag_d1 rfl ag_d0))) (ih _ _ _ _ hyp)
        · replace hyp := md_ifp q hyp
          refine ag_iconst d_Rd_readBody_99 ?_
          obtain ⟨q17, hyp⟩ := md_ifs hyp
          cases hyp
          exact ag_iret d_Rd_readBody_100 rfl (md_01n q17) ⟨rfl, rfl⟩
      · replace hyp := md_ifp q hyp
        refine ag_iconst d_Rd_readBody_88 ?_
        obtain ⟨q19, hyp⟩ := md_ifs hyp
        cases hyp
        exact ag_iret d_Rd_readBody_89 rfl (md_01n q19) ⟨rfl, rfl⟩
theorem w_Rd_readBody_73 {l : Launch} {G : ag_G} {d N : Nat} {C : Nat × Nat} {a : Nat} (hC : ag_cN G = C.1 ∧ ag_cS G = C.2) (hH : 19 ≤ d) {x1 : Option Nat} {h : ag_H} {res : (Int32) × ag_H} (hyp : fn_Rd_readBody_73 N C a x1 h = some res) : ag_ev gc_P l G m_Rd_readBody (d + 1) (ag_ret gc_P G (fun v h' => v = some (.int res.1) ∧ h' = res.2)) 73 [(0, .ref a), (1, ag_rf (x1))] [] h := by
  unfold fn_Rd_readBody_73 at hyp
  have hc : ag_C1 [(0, .ref a), (1, ag_rf (x1))] := (ag_c1 rfl (ag_c1 (ag_cat_rf _) ag_c0))
  refine ag_iconst d_Rd_readBody_73 ?_
  refine gc_istore_n d_Rd_readBody_74 (by decide) hc ?_
  replace hc := ag_cs (i := 3) (v := .int (Int32.ofInt 0)) hc rfl
  exact ag_dr (ag_d1 rfl (ag_d1 rfl (ag_d1 rfl ag_d0))) (w_Rd_readBody_75 hC hH N _ _ _ _ hyp)
theorem w_Rd_readBody_2 {l : Launch} {G : ag_G} {d N : Nat} {C : Nat × Nat} {a : Nat} (hC : ag_cN G = C.1 ∧ ag_cS G = C.2) (hH : 19 ≤ d) : ∀ (n : Nat) (res : (Int32) × ag_H) (x1 : Option Nat) (x2 : Option Nat) (x3 : Int32) (h : ag_H) , fn_Rd_readBody_2 N C a n x1 x2 x3 h = some res → ag_ev gc_P l G m_Rd_readBody (d + 1) (ag_ret gc_P G (fun v h' => v = some (.int res.1) ∧ h' = res.2)) 2 [(0, .ref a), (1, ag_rf (x1)), (2, ag_rf (x2)), (3, .int (x3))] [] h := by
  intro n
  induction n with
  | zero =>
    intro res x1 x2 x3 h hyp
    cases hyp
  | succ n ih =>
    intro res x1 x2 x3 h hyp
    rw [fe_Rd_readBody_2] at hyp
    have hc : ag_C1 [(0, .ref a), (1, ag_rf (x1)), (2, ag_rf (x2)), (3, .int (x3))] := (ag_c1 rfl (ag_c1 (ag_cat_rf _) (ag_c1 (ag_cat_rf _) (ag_c1 rfl ag_c0))))
    refine ag_iload_n d_Rd_readBody_2 rfl ?_
    refine ag_iconst d_Rd_readBody_3 ?_
    refine ag_icmp_ge d_Rd_readBody_4 rfl (fun q => ?_) (fun q => ?_)
    · replace hyp := md_ifp q hyp
      exact ag_dr (ag_d1 rfl (ag_d1 rfl ag_d0)) (w_Rd_readBody_73 hC hH hyp)
    · replace hyp := md_ifn q hyp
      refine gc_aload_n (r := (x1)) d_Rd_readBody_7 rfl ?_
      obtain ⟨r5, er5, hyp⟩ := md_bd hyp
      refine ag_calls (as := [ag_rf (x1)]) d_Rd_readBody_8 ml_Rd_34 gw_303 (Nat.le_of_ble_eq_true rfl) (w_Rd_readAtom hC (d := d) (by omega) er5) (fun v5 h5 q5 => ?_)
      obtain ⟨rfl, rfl⟩ := q5
      refine gc_astore0 (r := (r5.1)) d_Rd_readBody_11 (by decide) hc ?_
      replace hc := ag_cs (i := 4) (v := ag_rf (r5.1)) hc (ag_cat_rf _)
      refine gc_aload (r := ((r5.1))) d_Rd_readBody_13 rfl ?_
      refine gc_ifnonnull (r := ((r5.1))) d_Rd_readBody_15 rfl (fun q => ?_) (fun q => ?_)
      · replace hyp := md_ifn q hyp
        refine gc_aload_n (r := (x2)) d_Rd_readBody_20 rfl ?_
        refine gc_aload (r := ((r5.1))) d_Rd_readBody_21 rfl ?_
        obtain ⟨a11, ea11, hyp⟩ := md_bd hyp
        obtain ⟨r11, er11, hyp⟩ := md_bd hyp
        refine gc_callf (r := (x2)) (as := [ag_rf ((r5.1))]) d_Rd_readBody_23 il_Rd_87 ea11 (Nat.le_of_ble_eq_true rfl) (w_AL_add hC (d := d) (by omega) er11) (fun v11 h11 q11 => ?_)
        obtain ⟨rfl, rfl⟩ := q11
        refine ag_pop d_Rd_readBody_28 rfl ?_
        refine gc_aload_n (r := (some (a))) d_Rd_readBody_29 rfl ?_
        refine ag_dup d_Rd_readBody_30 rfl ?_
        obtain ⟨g15, eg15, hyp⟩ := md_bd hyp
        refine gc_geti (r := (some (a))) d_Rd_readBody_31 fr_Rd_27 eg15 ?_
        refine gc_aload (r := ((r5.1))) d_Rd_readBody_34 rfl ?_
        obtain ⟨a17, ea17, hyp⟩ := md_bd hyp
        obtain ⟨r17, er17, hyp⟩ := md_bd hyp
        refine gc_callv (r := ((r5.1))) (as := []) d_Rd_readBody_36 ml_Rd_38 gw_347 rfl sl_At_variables ea17 (Nat.le_of_ble_eq_true rfl) (w_At_variables hC (d := d) (by omega) er17) (fun v17 h17 q17 => ?_)
        obtain ⟨rfl, rfl⟩ := q17
        refine ag_ior d_Rd_readBody_39 ?_
        obtain ⟨h19, eh19, hyp⟩ := md_bd hyp
        refine gc_putf (r := (some (a))) d_Rd_readBody_40 fl_Rd_27 (fun q => by cases q) eh19 ?_
        refine gc_aload_n (r := (x1)) d_Rd_readBody_43 rfl ?_
        refine ag_bipush d_Rd_readBody_44 ?_
        obtain ⟨a22, ea22, hyp⟩ := md_bd hyp
        obtain ⟨r22, er22, hyp⟩ := md_bd hyp
        refine gc_callv (r := (x1)) (as := [.int ((Int8.ofInt (44)).toInt32)]) d_Rd_readBody_46 ml_Rd_44 gw_295 rfl sl_Ln_takes ea22 (Nat.le_of_ble_eq_true rfl) (w_Ln_takes hC (d := d) (by omega) er22) (fun v22 h22 q22 => ?_)
        obtain ⟨rfl, rfl⟩ := q22
        refine ag_if_ne d_Rd_readBody_49 rfl (fun q => ?_) (fun q => ?_)
        · replace hyp := md_ifn q hyp
          refine gc_aload_n (r := (x1)) d_Rd_readBody_54 rfl ?_
          obtain ⟨a25, ea25, hyp⟩ := md_bd hyp
          obtain ⟨r25, er25, hyp⟩ := md_bd hyp
          refine gc_callv (r := (x1)) (as := []) d_Rd_readBody_55 ml_Rd_55 gw_299 rfl sl_Ln_sign ea25 (Nat.le_of_ble_eq_true rfl) (w_Ln_sign hC (d := d) (by omega) er25) (fun v25 h25 q25 => ?_)
          obtain ⟨rfl, rfl⟩ := q25
          obtain ⟨r26, er26, hyp⟩ := md_bd hyp
          refine ag_calls (as := [.int (r25.1)]) d_Rd_readBody_58 ml_Rd_70 gw_307 (Nat.le_of_ble_eq_true rfl) (w_Rd_isName hC (d := d) (by omega) er26) (fun v26 h26 q26 => ?_)
          obtain ⟨rfl, rfl⟩ := q26
          refine ag_if_ne d_Rd_readBody_61 rfl (fun q => ?_) (fun q => ?_)
          · replace hyp := md_ifn q hyp
            refine gc_iinc d_Rd_readBody_67 rfl (by decide) hc ?_
            replace hc := ag_cs (i := 3) (v := .int ((x3) + Int32.ofInt (1))) hc rfl
            refine ag_goto d_Rd_readBody_70 rfl ?_
            exact ag_dr (ag_d1 rfl (ag_d1 rfl (ag_d1 rfl (ag_d1 rfl ag_d0)))) (ih _ _ _ _ _ hyp)
          · replace hyp := md_ifp q hyp
            refine ag_goto d_Rd_readBody_64 rfl ?_
            exact ag_dr (ag_d1 rfl (ag_d1 rfl ag_d0)) (w_Rd_readBody_73 hC hH hyp)
        · replace hyp := md_ifp q hyp
          refine ag_iconst d_Rd_readBody_52 ?_
          obtain ⟨q32, hyp⟩ := md_ifs hyp
          cases hyp
          exact ag_iret d_Rd_readBody_53 rfl (md_01n q32) ⟨rfl, rfl⟩
      · replace hyp := md_ifp q hyp
        refine ag_iconst d_Rd_readBody_18 ?_
        obtain ⟨q34, hyp⟩ := md_ifs hyp
        cases hyp
        exact ag_iret d_Rd_readBody_19 rfl (md_01n q34) ⟨rfl, rfl⟩
theorem w_Rd_readBody_0 {l : Launch} {G : ag_G} {d N : Nat} {C : Nat × Nat} {a : Nat} (hC : ag_cN G = C.1 ∧ ag_cS G = C.2) (hH : 19 ≤ d) {x1 : Option Nat} {x2 : Option Nat} {h : ag_H} {res : (Int32) × ag_H} (hyp : fn_Rd_readBody_0 N C a x1 x2 h = some res) : ag_ev gc_P l G m_Rd_readBody (d + 1) (ag_ret gc_P G (fun v h' => v = some (.int res.1) ∧ h' = res.2)) 0 [(0, .ref a), (1, ag_rf (x1)), (2, ag_rf (x2))] [] h := by
  unfold fn_Rd_readBody_0 at hyp
  have hc : ag_C1 [(0, .ref a), (1, ag_rf (x1)), (2, ag_rf (x2))] := (ag_c1 rfl (ag_c1 (ag_cat_rf _) (ag_c1 (ag_cat_rf _) ag_c0)))
  refine ag_iconst d_Rd_readBody_0 ?_
  refine gc_istore_n d_Rd_readBody_1 (by decide) hc ?_
  replace hc := ag_cs (i := 3) (v := .int (Int32.ofInt 0)) hc rfl
  exact ag_dr (ag_d1 rfl (ag_d1 rfl (ag_d1 rfl (ag_d1 rfl ag_d0)))) (w_Rd_readBody_2 hC hH N _ _ _ _ _ hyp)
theorem w_Rd_readBody {l : Launch} {G : ag_G} {d N : Nat} {C : Nat × Nat} (hC : ag_cN G = C.1 ∧ ag_cS G = C.2) (hH : 19 + 1 ≤ d) {a : Nat} {p1 : Option Nat} {p2 : Option Nat} {h : ag_H} {res : (Int32) × ag_H} (hyp : fn_Rd_readBody N C a p1 p2 h = some res) : ag_Met gc_P l G m_Rd_readBody d [.ref a, ag_rf (p1), ag_rf (p2)] h (fun v h' => v = some (.int res.1) ∧ h' = res.2) := by
  obtain ⟨d, rfl, hG⟩ := md_dd hH
  exact ag_met0 (by decide) rfl (ag_v1 rfl (ag_v1 (ag_cat_rf _) (ag_v1 (ag_cat_rf _) ag_v0))) (Nat.le_of_ble_eq_true rfl) (ag_dr (ag_d1 rfl (ag_d1 rfl (ag_d1 rfl ag_d0))) (w_Rd_readBody_0 hC hG hyp))
def fn_Ar_copyOf3_0 (N : Nat) (C : Nat × Nat) (x0 : Option Nat) (x1 : Int32) (h : ag_H) : Option ((Option Nat) × ag_H) := (ag_le h (x0)).bind fun g3 => if (x1) = (g3) then (none) else (if ¬ (x1) < 0 ∧ (x1).toNatClampNeg * 4 ≤ 536870912 ∧ h.1 + 1 ≤ C.1 ∧ h.2.1 + (x1).toNatClampNeg ≤ C.2 then ((ag_le (ag_nw h (x1).toNatClampNeg (.inl (0, (x1).toNatClampNeg, .inl (fun _ => 0)))) (x0)).bind fun g13 => (ag_cpi (ag_nw h (x1).toNatClampNeg (.inl (0, (x1).toNatClampNeg, .inl (fun _ => 0)))) (x0) (Int32.ofInt 0) ((some (h.1))) (Int32.ofInt 0) (if (x1) < (g13) then (x1) else (g13))).bind fun h16 => some (((some (h.1))), h16)) else none)
def fn_Ar_copyOf3 (N : Nat) (C : Nat × Nat) (p0 : Option Nat) (p1 : Int32) (h : ag_H) : Option ((Option Nat) × ag_H) := fn_Ar_copyOf3_0 N C p0 p1 h
theorem w_Ar_copyOf3_0 {l : Launch} {G : ag_G} {d N : Nat} {C : Nat × Nat} (hC : ag_cN G = C.1 ∧ ag_cS G = C.2) {x0 : Option Nat} {x1 : Int32} {h : ag_H} {res : (Option Nat) × ag_H} (hyp : fn_Ar_copyOf3_0 N C x0 x1 h = some res) : ag_ev gc_P l G m_Ar_copyOf3 (d) (ag_ret gc_P G (fun v h' => v = some (ag_rf res.1) ∧ h' = res.2)) 0 [(0, ag_rf (x0)), (1, .int (x1))] [] h := by
  unfold fn_Ar_copyOf3_0 at hyp
  have hc : ag_C1 [(0, ag_rf (x0)), (1, .int (x1))] := (ag_c1 (ag_cat_rf _) (ag_c1 rfl ag_c0))
  refine ag_iload_n d_Ar_copyOf3_0 rfl ?_
  refine gc_aload_n (r := (x0)) d_Ar_copyOf3_1 rfl ?_
  obtain ⟨g3, eg3, hyp⟩ := md_bd hyp
  refine gc_alen (r := (x0)) d_Ar_copyOf3_2 eg3 ?_
  refine ag_icmp_ne d_Ar_copyOf3_3 rfl (fun q => ?_) (fun q => ?_)
  · replace hyp := md_ifn q hyp
    refine ag_iload_n d_Ar_copyOf3_14 rfl ?_
    obtain ⟨q6, hyp⟩ := md_ifs hyp
    refine gc_newi (ty := .int) (t := 0) (b := 4) hC d_Ar_copyOf3_15 gw_74 rfl rfl (fun D q => by cases q) rfl rfl q6 ?_
    refine gc_astore0_n (r := (some (h.1))) d_Ar_copyOf3_17 (by decide) hc ?_
    replace hc := ag_cs (i := 2) (v := ag_rf (some (h.1))) hc (ag_cat_rf _)
    refine gc_aload_n (r := (x0)) d_Ar_copyOf3_18 rfl ?_
    refine ag_iconst d_Ar_copyOf3_19 ?_
    refine gc_aload_n (r := ((some (h.1)))) d_Ar_copyOf3_20 rfl ?_
    refine ag_iconst d_Ar_copyOf3_21 ?_
    refine gc_aload_n (r := (x0)) d_Ar_copyOf3_22 rfl ?_
    obtain ⟨g13, eg13, hyp⟩ := md_bd hyp
    refine gc_alen (r := (x0)) d_Ar_copyOf3_23 eg13 ?_
    refine ag_iload_n d_Ar_copyOf3_24 rfl ?_
    refine ag_min d_Ar_copyOf3_25 gw_420 gw_421 gw_13 gw_min (ag_w9 (ag_v1 rfl (ag_v1 (ag_cat_rf _) (ag_v1 rfl (ag_v1 (ag_cat_rf _) ag_v0)))) (Nat.le_of_ble_eq_true rfl)) ?_
    obtain ⟨h16, eh16, hyp⟩ := md_bd hyp
    refine gc_cpi (r0 := (x0)) (r := ((some (h.1)))) d_Ar_copyOf3_28 gw_423 gw_425 gw_424 gw_15 (Nat.le_of_ble_eq_true rfl) eh16 ?_
    refine gc_aload_n (r := ((some (h.1)))) d_Ar_copyOf3_31 rfl ?_
    cases hyp
    exact gc_aret (r := ((some (h.1)))) d_Ar_copyOf3_32 rfl (Or.inr ⟨_, rfl⟩) ⟨rfl, rfl⟩
  · replace hyp := md_ifp q hyp
    refine gc_aload_n (r := (x0)) d_Ar_copyOf3_6 rfl ?_
    cases hyp
theorem w_Ar_copyOf3 {l : Launch} {G : ag_G} {d N : Nat} {C : Nat × Nat} (hC : ag_cN G = C.1 ∧ ag_cS G = C.2) (hH : 0 ≤ d) {p0 : Option Nat} {p1 : Int32} {h : ag_H} {res : (Option Nat) × ag_H} (hyp : fn_Ar_copyOf3 N C p0 p1 h = some res) : ag_Met gc_P l G m_Ar_copyOf3 d [ag_rf (p0), .int (p1)] h (fun v h' => v = some (ag_rf res.1) ∧ h' = res.2) := by
  exact ag_met0 (by decide) rfl (ag_v1 (ag_cat_rf _) (ag_v1 rfl ag_v0)) (Nat.le_of_ble_eq_true rfl) (ag_dr (ag_d1 rfl (ag_d1 rfl ag_d0)) (w_Ar_copyOf3_0 hC hyp))
def fn_Cl_init_0 (N : Nat) (C : Nat × Nat) (a : Nat) (x1 : Int32) (x2 : Int32) (x3 : Option Nat) (x4 : Option Nat) (x5 : Option Nat) (h : ag_H) : Option ((Int32) × ag_H) := (ag_pf h (ag_rf (some (a))) 7 0 .int (.int (x1))).bind fun h5 => (ag_pf h5 (ag_rf (some (a))) 7 1 .boolean (.int (x2))).bind fun h8 => (ag_pf h8 (ag_rf (some (a))) 7 2 (.object "GrantChain$Atom") (ag_rf (x3))).bind fun h11 => (ag_pf h11 (ag_rf (some (a))) 7 3 (.object "java/util/List") (ag_rf (x4))).bind fun h14 => (ag_pf h14 (ag_rf (some (a))) 7 4 (.array .int) (ag_rf (x5))).bind fun h17 => some (0, h17)
def fn_Cl_init (N : Nat) (C : Nat × Nat) (a : Nat) (p1 : Int32) (p2 : Int32) (p3 : Option Nat) (p4 : Option Nat) (p5 : Option Nat) (h : ag_H) : Option ((Int32) × ag_H) := fn_Cl_init_0 N C a p1 p2 p3 p4 p5 h
theorem w_Cl_init_0 {l : Launch} {G : ag_G} {d N : Nat} {C : Nat × Nat} {a : Nat} (hC : ag_cN G = C.1 ∧ ag_cS G = C.2) {x1 : Int32} {x2 : Int32} {x3 : Option Nat} {x4 : Option Nat} {x5 : Option Nat} {h : ag_H} {res : (Int32) × ag_H} (hyp : fn_Cl_init_0 N C a x1 x2 x3 x4 x5 h = some res) : ag_ev gc_P l G m_Cl_init (d) (ag_ret gc_P G (fun v h' => v = none ∧ h' = res.2)) 0 [(0, .ref a), (1, .int (x1)), (2, .int (x2)), (3, ag_rf (x3)), (4, ag_rf (x4)), (5, ag_rf (x5))] [] h := by
  unfold fn_Cl_init_0 at hyp
  have hc : ag_C1 [(0, .ref a), (1, .int (x1)), (2, .int (x2)), (3, ag_rf (x3)), (4, ag_rf (x4)), (5, ag_rf (x5))] := (ag_c1 rfl (ag_c1 rfl (ag_c1 rfl (ag_c1 (ag_cat_rf _) (ag_c1 (ag_cat_rf _) (ag_c1 (ag_cat_rf _) ag_c0))))))
  refine gc_aload_n (r := (some (a))) d_Cl_init_0 rfl ?_
  refine ag_obji (a := a) d_Cl_init_1 gw_470 gw_34 gw_35 (Nat.le_of_ble_eq_true rfl) ?_
  refine gc_aload_n (r := (some (a))) d_Cl_init_4 rfl ?_
  refine ag_iload_n d_Cl_init_5 rfl ?_
  obtain ⟨h5, eh5, hyp⟩ := md_bd hyp
  refine gc_putf (r := (some (a))) d_Cl_init_6 fl_Cl_7 (fun _ => rfl) eh5 ?_
  refine gc_aload_n (r := (some (a))) d_Cl_init_9 rfl ?_
  refine ag_iload_n d_Cl_init_10 rfl ?_
  obtain ⟨h8, eh8, hyp⟩ := md_bd hyp
  refine gc_putf (r := (some (a))) d_Cl_init_11 fl_Cl_13 (fun _ => rfl) eh8 ?_
  refine gc_aload_n (r := (some (a))) d_Cl_init_14 rfl ?_
  refine gc_aload_n (r := (x3)) d_Cl_init_15 rfl ?_
  obtain ⟨h11, eh11, hyp⟩ := md_bd hyp
  refine gc_putf (r := (some (a))) d_Cl_init_16 fl_Cl_17 (fun _ => rfl) eh11 ?_
  refine gc_aload_n (r := (some (a))) d_Cl_init_19 rfl ?_
  refine gc_aload (r := (x4)) d_Cl_init_20 rfl ?_
  obtain ⟨h14, eh14, hyp⟩ := md_bd hyp
  refine gc_putf (r := (some (a))) d_Cl_init_22 fl_Cl_21 (fun _ => rfl) eh14 ?_
  refine gc_aload_n (r := (some (a))) d_Cl_init_25 rfl ?_
  refine gc_aload (r := (x5)) d_Cl_init_26 rfl ?_
  obtain ⟨h17, eh17, hyp⟩ := md_bd hyp
  refine gc_putf (r := (some (a))) d_Cl_init_28 fl_Cl_25 (fun _ => rfl) eh17 ?_
  cases hyp
  exact ag_vret d_Cl_init_31 rfl ⟨rfl, rfl⟩
theorem w_Cl_init {l : Launch} {G : ag_G} {d N : Nat} {C : Nat × Nat} (hC : ag_cN G = C.1 ∧ ag_cS G = C.2) (hH : 0 ≤ d) {a : Nat} {p1 : Int32} {p2 : Int32} {p3 : Option Nat} {p4 : Option Nat} {p5 : Option Nat} {h : ag_H} {res : (Int32) × ag_H} (hyp : fn_Cl_init N C a p1 p2 p3 p4 p5 h = some res) : ag_Met gc_P l G m_Cl_init d [.ref a, .int (p1), .int (p2), ag_rf (p3), ag_rf (p4), ag_rf (p5)] h (fun v h' => v = none ∧ h' = res.2) := by
  exact ag_met0 (by decide) rfl (ag_v1 rfl (ag_v1 rfl (ag_v1 rfl (ag_v1 (ag_cat_rf _) (ag_v1 (ag_cat_rf _) (ag_v1 (ag_cat_rf _) ag_v0)))))) (Nat.le_of_ble_eq_true rfl) (ag_dr (ag_d1 rfl (ag_d1 rfl (ag_d1 rfl (ag_d1 rfl (ag_d1 rfl (ag_d1 rfl ag_d0)))))) (w_Cl_init_0 hC hyp))
