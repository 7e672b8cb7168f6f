/-! Md_made, Md_decide, Md_authorize, Md_latest, Md_before -/
def fn_Md_made_139 (N : Nat) (s0 : Int32) (S : MS) : Option (Int32 × MS) := if md_01 (s0) = true then (some ((s0), S)) else none
def fn_Md_made_115 (N : Nat) (S : MS) : Option (Int32 × MS) := if ((va_up S.1 33 (S.1 32), S.2).1 7) < ((va_up S.1 33 (S.1 32), S.2).1 32) then (fn_Md_made_139 N (Int32.ofInt 0) (va_up S.1 33 (S.1 32), S.2)) else (fn_Md_made_139 N (Int32.ofInt 1) (va_up S.1 33 (S.1 32), S.2))
def fn_Md_made_111 (N : Nat) (k17 : Int32 → MS → Option (Int32 × MS)) (s0 : Int32) (S : MS) : Option (Int32 × MS) := k17 (s0) S
def fn_Md_made_79 (N : Nat) (k17 : Int32 → MS → Option (Int32 × MS)) (k55 : Int32 → MS → Option (Int32 × MS)) (x2 : Int32) (S : MS) : Option (Int32 × MS) := k55 ((x2) + Int32.ofInt (1)) S
def fn_Md_made_55 (N : Nat) (k17 : Int32 → MS → Option (Int32 × MS)) : Nat → Int32 → MS → Option (Int32 × MS)
  | 0, _, _ => none
  | n + 1, x2, S => if (S.1 15) ≤ (x2) then (if ((va_up S.1 36 ((S.1 36) + (Int32.ofInt 1)), S.2).1 32) ≤ ((va_up S.1 36 ((S.1 36) + (Int32.ofInt 1)), S.2).1 33) then (fn_Md_made_111 N k17 (Int32.ofInt 0) (va_up S.1 36 ((S.1 36) + (Int32.ofInt 1)), S.2)) else (fn_Md_made_111 N k17 (Int32.ofInt 1) (va_up S.1 36 ((S.1 36) + (Int32.ofInt 1)), S.2))) else (if md_in (x2) (md_len 9) = true then (if (S.2 9 (x2).toNatClampNeg) = (Int32.ofInt 1) then ((fn_Md_bindings N (x2) (Int32.ofInt 1) S).bind fun r1 => fn_Md_made_79 N k17 (fn_Md_made_55 N k17 n) (x2) r1.2) else (fn_Md_made_79 N k17 (fn_Md_made_55 N k17 n) (x2) S)) else none)
theorem fe_Md_made_55 (N : Nat) (k17 : Int32 → MS → Option (Int32 × MS)) (n : Nat) (x2 : Int32) (S : MS) : fn_Md_made_55 N k17 (n + 1) x2 S = (if (S.1 15) ≤ (x2) then (if ((va_up S.1 36 ((S.1 36) + (Int32.ofInt 1)), S.2).1 32) ≤ ((va_up S.1 36 ((S.1 36) + (Int32.ofInt 1)), S.2).1 33) then (fn_Md_made_111 N k17 (Int32.ofInt 0) (va_up S.1 36 ((S.1 36) + (Int32.ofInt 1)), S.2)) else (fn_Md_made_111 N k17 (Int32.ofInt 1) (va_up S.1 36 ((S.1 36) + (Int32.ofInt 1)), S.2))) else (if md_in (x2) (md_len 9) = true then (if (S.2 9 (x2).toNatClampNeg) = (Int32.ofInt 1) then ((fn_Md_bindings N (x2) (Int32.ofInt 1) S).bind fun r1 => fn_Md_made_79 N k17 (fn_Md_made_55 N k17 n) (x2) r1.2) else (fn_Md_made_79 N k17 (fn_Md_made_55 N k17 n) (x2) S)) else none)) := rfl
def fn_Md_made_17 (N : Nat) : Nat → Int32 → MS → Option (Int32 × MS)
  | 0, _, _ => none
  | n + 1, x1, S => if (x1) = (0) then (fn_Md_made_115 N  S) else (if (S.1 7) < (S.1 32) then (fn_Md_made_115 N  S) else (if (S.1 36) = (S.1 8) then (if md_01 (Int32.ofInt 0) = true then (some ((Int32.ofInt 0), S)) else none) else (fn_Md_made_55 N (fn_Md_made_17 N n) N (Int32.ofInt 0) (va_up S.1 33 (S.1 32), S.2))))
theorem fe_Md_made_17 (N : Nat) (n : Nat) (x1 : Int32) (S : MS) : fn_Md_made_17 N (n + 1) x1 S = (if (x1) = (0) then (fn_Md_made_115 N  S) else (if (S.1 7) < (S.1 32) then (fn_Md_made_115 N  S) else (if (S.1 36) = (S.1 8) then (if md_01 (Int32.ofInt 0) = true then (some ((Int32.ofInt 0), S)) else none) else (fn_Md_made_55 N (fn_Md_made_17 N n) N (Int32.ofInt 0) (va_up S.1 33 (S.1 32), S.2))))) := rfl
def fn_Md_made_16 (N : Nat) (s0 : Int32) (S : MS) : Option (Int32 × MS) := fn_Md_made_17 N N (s0) S
def fn_Md_made_0 (N : Nat) (S : MS) : Option (Int32 × MS) := if (S.1 7) < (S.1 32) then (fn_Md_made_16 N (Int32.ofInt 0) S) else (fn_Md_made_16 N (Int32.ofInt 1) S)
def fn_Md_made (N : Nat) (S : MS) : Option (Int32 × MS) := fn_Md_made_0 N S
theorem w_Md_made_139 {l : Launch} {G : ag_G} {d N : Nat} {h : ag_H} {a : Nat} (hb : md_ok h a) (hH : 3 ≤ d) {s0 : Int32} {S : MS} {res : Int32 × MS} (hyp : fn_Md_made_139 N s0 S = some res) : ag_ev gc_P l G m_Md_made (d + 1) (ag_ret gc_P G (fun v h' => v = some (.int res.1) ∧ h' = md_up h a res.2)) 139 [(0, .ref a)] [.int (s0)] (md_up h a S) := by
  unfold fn_Md_made_139 at hyp
  obtain ⟨qz, hyp⟩ := md_ifs hyp
  cases hyp
  exact ag_iret d_Md_made_139 rfl (md_01n qz) ⟨rfl, rfl⟩
theorem w_Md_made_115 {l : Launch} {G : ag_G} {d N : Nat} {h : ag_H} {a : Nat} (hb : md_ok h a) (hH : 3 ≤ d) {S : MS} {res : Int32 × MS} (hyp : fn_Md_made_115 N S = some res) : ag_ev gc_P l G m_Md_made (d + 1) (ag_ret gc_P G (fun v h' => v = some (.int res.1) ∧ h' = md_up h a res.2)) 115 [(0, .ref a)] [] (md_up h a S) := by
  unfold fn_Md_made_115 at hyp
  refine ag_aload_n d_Md_made_115 rfl ?_
  refine ag_aload_n d_Md_made_116 rfl ?_
  refine md_get hb d_Md_made_117 fr_Md_202 rfl ?_
  refine md_puti hb d_Md_made_120 fl_Md_233 rfl (by decide) rfl rfl ?_
  refine ag_aload_n d_Md_made_123 rfl ?_
  refine md_get hb d_Md_made_124 fr_Md_202 rfl ?_
  refine ag_aload_n d_Md_made_127 rfl ?_
  refine md_get hb d_Md_made_128 fr_Md_23 rfl ?_
  refine ag_icmp_gt d_Md_made_131 rfl (fun q => ?_) (fun q => ?_)
  · replace hyp := md_ifp q hyp
    refine ag_iconst d_Md_made_138 ?_
    exact ag_dr (ag_d1 rfl ag_d0) (w_Md_made_139 hb hH hyp)
  · replace hyp := md_ifn q hyp
    refine ag_iconst d_Md_made_134 ?_
    refine ag_goto d_Md_made_135 rfl ?_
    exact ag_dr (ag_d1 rfl ag_d0) (w_Md_made_139 hb hH hyp)
theorem w_Md_made_111 {l : Launch} {G : ag_G} {d N : Nat} {h : ag_H} {a : Nat} (hb : md_ok h a) (hH : 3 ≤ d) {k17 : Int32 → MS → Option (Int32 × MS)} (hk17 : ∀ (res : Int32 × MS) (y1 : Int32) (T : MS), k17 y1 T = some res → ag_ev gc_P l G m_Md_made (d + 1) (ag_ret gc_P G (fun v h' => v = some (.int res.1) ∧ h' = md_up h a res.2)) 17 [(0, .ref a), (1, .int (y1))] [] (md_up h a T)) {s0 : Int32} {S : MS} {res : Int32 × MS} (hyp : fn_Md_made_111 N k17 s0 S = some res) : ag_ev gc_P l G m_Md_made (d + 1) (ag_ret gc_P G (fun v h' => v = some (.int res.1) ∧ h' = md_up h a res.2)) 111 [(0, .ref a)] [.int (s0)] (md_up h a S) := by
  unfold fn_Md_made_111 at hyp
  refine ag_istore_n d_Md_made_111 (by decide) ?_
  refine ag_goto d_Md_made_112 rfl ?_
  exact ag_dr (ag_d1 rfl (ag_d1 rfl ag_d0)) (hk17 _ _ _ hyp)
theorem w_Md_made_79 {l : Launch} {G : ag_G} {d N : Nat} {h : ag_H} {a : Nat} (hb : md_ok h a) (hH : 3 ≤ d) {k17 : Int32 → MS → Option (Int32 × MS)} {k55 : Int32 → MS → Option (Int32 × MS)} (hk17 : ∀ (res : Int32 × MS) (y1 : Int32) (T : MS), k17 y1 T = some res → ag_ev gc_P l G m_Md_made (d + 1) (ag_ret gc_P G (fun v h' => v = some (.int res.1) ∧ h' = md_up h a res.2)) 17 [(0, .ref a), (1, .int (y1))] [] (md_up h a T)) (hk55 : ∀ (res : Int32 × MS) (y2 : Int32) (T : MS), k55 y2 T = some res → ag_ev gc_P l G m_Md_made (d + 1) (ag_ret gc_P G (fun v h' => v = some (.int res.1) ∧ h' = md_up h a res.2)) 55 [(0, .ref a), (2, .int (y2))] [] (md_up h a T)) {x2 : Int32} {S : MS} {res : Int32 × MS} (hyp : fn_Md_made_79 N k17 k55 x2 S = some res) : ag_ev gc_P l G m_Md_made (d + 1) (ag_ret gc_P G (fun v h' => v = some (.int res.1) ∧ h' = md_up h a res.2)) 79 [(0, .ref a), (2, .int (x2))] [] (md_up h a S) := by
  unfold fn_Md_made_79 at hyp
  refine ag_iinc d_Md_made_79 rfl (by decide) ?_
  refine ag_goto d_Md_made_82 rfl ?_
  exact ag_dr (ag_d1 rfl (ag_d1 rfl ag_d0)) (hk55 _ _ _ hyp)
theorem w_Md_made_55 {l : Launch} {G : ag_G} {d N : Nat} {h : ag_H} {a : Nat} (hb : md_ok h a) (hH : 3 ≤ d) {k17 : Int32 → MS → Option (Int32 × MS)} (hk17 : ∀ (res : Int32 × MS) (y1 : Int32) (T : MS), k17 y1 T = some res → ag_ev gc_P l G m_Md_made (d + 1) (ag_ret gc_P G (fun v h' => v = some (.int res.1) ∧ h' = md_up h a res.2)) 17 [(0, .ref a), (1, .int (y1))] [] (md_up h a T)) : ∀ (n : Nat) (res : Int32 × MS) (x2 : Int32) (S : MS) , fn_Md_made_55 N k17 n x2 S = some res → ag_ev gc_P l G m_Md_made (d + 1) (ag_ret gc_P G (fun v h' => v = some (.int res.1) ∧ h' = md_up h a res.2)) 55 [(0, .ref a), (2, .int (x2))] [] (md_up h a S) := by
  intro n
  induction n with
  | zero =>
    intro res x2 S hyp
    cases hyp
  | succ n ih =>
    intro res x2 S hyp
    rw [fe_Md_made_55] at hyp
    refine ag_iload_n d_Md_made_55 rfl ?_
    refine ag_aload_n d_Md_made_56 rfl ?_
    refine md_get hb d_Md_made_57 fr_Md_252 rfl ?_
    refine ag_icmp_ge d_Md_made_60 rfl (fun q => ?_) (fun q => ?_)
    · replace hyp := md_ifp q hyp
      refine ag_aload_n d_Md_made_85 rfl ?_
      refine ag_dup d_Md_made_86 rfl ?_
      refine md_get hb d_Md_made_87 fr_Md_258 rfl ?_
      refine ag_iconst d_Md_made_90 ?_
      refine ag_iadd d_Md_made_91 ?_
      refine md_puti hb d_Md_made_92 fl_Md_258 rfl (by decide) rfl rfl ?_
      refine ag_aload_n d_Md_made_95 rfl ?_
      refine md_get hb d_Md_made_96 fr_Md_202 rfl ?_
      refine ag_aload_n d_Md_made_99 rfl ?_
      refine md_get hb d_Md_made_100 fr_Md_233 rfl ?_
      refine ag_icmp_le d_Md_made_103 rfl (fun q => ?_) (fun q => ?_)
      · replace hyp := md_ifp q hyp
        refine ag_iconst d_Md_made_110 ?_
        exact ag_dr (ag_d1 rfl ag_d0) (w_Md_made_111 hb hH hk17 hyp)
      · replace hyp := md_ifn q hyp
        refine ag_iconst d_Md_made_106 ?_
        refine ag_goto d_Md_made_107 rfl ?_
        exact ag_dr (ag_d1 rfl ag_d0) (w_Md_made_111 hb hH hk17 hyp)
    · replace hyp := md_ifn q hyp
      refine ag_aload_n d_Md_made_63 rfl ?_
      refine md_get hb d_Md_made_64 fr_Md_45 rfl ?_
      refine ag_iload_n d_Md_made_67 rfl ?_
      obtain ⟨qi, hyp⟩ := md_ifs hyp
      refine md_ald hb d_Md_made_68 (by decide) (by decide) rfl qi ?_
      refine ag_iconst d_Md_made_69 ?_
      refine ag_icmp_ne d_Md_made_70 rfl (fun q => ?_) (fun q => ?_)
      · replace hyp := md_ifn q hyp
        exact ag_dr (ag_d1 rfl (ag_d1 rfl ag_d0)) (w_Md_made_79 hb hH hk17 ih hyp)
      · replace hyp := md_ifp q hyp
        refine ag_aload_n d_Md_made_73 rfl ?_
        refine ag_iload_n d_Md_made_74 rfl ?_
        refine ag_iconst d_Md_made_75 ?_
        obtain ⟨r1, e1, hyp⟩ := md_bd hyp
        refine ag_callv (as := [.int (x2), .int (Int32.ofInt 1)]) d_Md_made_76 ml_Md_261 gw_1246 rfl sl_Md_bindings (md_at0 hb _) (Nat.le_of_ble_eq_true rfl) (w_Md_bindings hb (d := d) (by omega) e1) (fun v1 h1 q1 => ?_)
        obtain ⟨rfl, rfl⟩ := q1
        exact ag_dr (ag_d1 rfl (ag_d1 rfl ag_d0)) (w_Md_made_79 hb hH hk17 ih hyp)
theorem w_Md_made_17 {l : Launch} {G : ag_G} {d N : Nat} {h : ag_H} {a : Nat} (hb : md_ok h a) (hH : 3 ≤ d) : ∀ (n : Nat) (res : Int32 × MS) (x1 : Int32) (S : MS) , fn_Md_made_17 N n x1 S = some res → ag_ev gc_P l G m_Md_made (d + 1) (ag_ret gc_P G (fun v h' => v = some (.int res.1) ∧ h' = md_up h a res.2)) 17 [(0, .ref a), (1, .int (x1))] [] (md_up h a S) := by
  intro n
  induction n with
  | zero =>
    intro res x1 S hyp
    cases hyp
  | succ n ih =>
    intro res x1 S hyp
    rw [fe_Md_made_17] at hyp
    refine ag_iload_n d_Md_made_17 rfl ?_
    refine ag_if_eq d_Md_made_18 rfl (fun q => ?_) (fun q => ?_)
    · replace hyp := md_ifp q hyp
      exact ag_dr (ag_d1 rfl ag_d0) (w_Md_made_115 hb hH hyp)
    · replace hyp := md_ifn q hyp
      refine ag_aload_n d_Md_made_21 rfl ?_
      refine md_get hb d_Md_made_22 fr_Md_202 rfl ?_
      refine ag_aload_n d_Md_made_25 rfl ?_
      refine md_get hb d_Md_made_26 fr_Md_23 rfl ?_
      refine ag_icmp_gt d_Md_made_29 rfl (fun q => ?_) (fun q => ?_)
      · replace hyp := md_ifp q hyp
        exact ag_dr (ag_d1 rfl ag_d0) (w_Md_made_115 hb hH hyp)
      · replace hyp := md_ifn q hyp
        refine ag_aload_n d_Md_made_32 rfl ?_
        refine md_get hb d_Md_made_33 fr_Md_258 rfl ?_
        refine ag_aload_n d_Md_made_36 rfl ?_
        refine md_get hb d_Md_made_37 fr_Md_26 rfl ?_
        refine ag_icmp_ne d_Md_made_40 rfl (fun q => ?_) (fun q => ?_)
        · replace hyp := md_ifn q hyp
          refine ag_aload_n d_Md_made_45 rfl ?_
          refine ag_aload_n d_Md_made_46 rfl ?_
          refine md_get hb d_Md_made_47 fr_Md_202 rfl ?_
          refine md_puti hb d_Md_made_50 fl_Md_233 rfl (by decide) rfl rfl ?_
          refine ag_iconst d_Md_made_53 ?_
          refine ag_istore_n d_Md_made_54 (by decide) ?_
          exact ag_dr (ag_d1 rfl (ag_d1 rfl ag_d0)) (w_Md_made_55 hb hH ih N _ _ _ hyp)
        · replace hyp := md_ifp q hyp
          refine ag_iconst d_Md_made_43 ?_
          obtain ⟨qz, hyp⟩ := md_ifs hyp
          cases hyp
          exact ag_iret d_Md_made_44 rfl (md_01n qz) ⟨rfl, rfl⟩
theorem w_Md_made_16 {l : Launch} {G : ag_G} {d N : Nat} {h : ag_H} {a : Nat} (hb : md_ok h a) (hH : 3 ≤ d) {s0 : Int32} {S : MS} {res : Int32 × MS} (hyp : fn_Md_made_16 N s0 S = some res) : ag_ev gc_P l G m_Md_made (d + 1) (ag_ret gc_P G (fun v h' => v = some (.int res.1) ∧ h' = md_up h a res.2)) 16 [(0, .ref a)] [.int (s0)] (md_up h a S) := by
  unfold fn_Md_made_16 at hyp
  refine ag_istore_n d_Md_made_16 (by decide) ?_
  exact ag_dr (ag_d1 rfl (ag_d1 rfl ag_d0)) (w_Md_made_17 hb hH N _ _ _ hyp)
theorem w_Md_made_0 {l : Launch} {G : ag_G} {d N : Nat} {h : ag_H} {a : Nat} (hb : md_ok h a) (hH : 3 ≤ d) {S : MS} {res : Int32 × MS} (hyp : fn_Md_made_0 N S = some res) : ag_ev gc_P l G m_Md_made (d + 1) (ag_ret gc_P G (fun v h' => v = some (.int res.1) ∧ h' = md_up h a res.2)) 0 [(0, .ref a)] [] (md_up h a S) := by
  unfold fn_Md_made_0 at hyp
  refine ag_aload_n d_Md_made_0 rfl ?_
  refine md_get hb d_Md_made_1 fr_Md_202 rfl ?_
  refine ag_aload_n d_Md_made_4 rfl ?_
  refine md_get hb d_Md_made_5 fr_Md_23 rfl ?_
  refine ag_icmp_gt d_Md_made_8 rfl (fun q => ?_) (fun q => ?_)
  · replace hyp := md_ifp q hyp
    refine ag_iconst d_Md_made_15 ?_
    exact ag_dr (ag_d1 rfl ag_d0) (w_Md_made_16 hb hH hyp)
  · replace hyp := md_ifn q hyp
    refine ag_iconst d_Md_made_11 ?_
    refine ag_goto d_Md_made_12 rfl ?_
    exact ag_dr (ag_d1 rfl ag_d0) (w_Md_made_16 hb hH hyp)
theorem w_Md_made {l : Launch} {G : ag_G} {d N : Nat} {h : ag_H} {a : Nat} (hb : md_ok h a) (hH : 4 ≤ d) {S : MS} {res : Int32 × MS} (hyp : fn_Md_made N S = some res) : ag_Met gc_P l G m_Md_made d [.ref a] (md_up h a S) (fun v h' => v = some (.int res.1) ∧ h' = md_up h a res.2) := by
  obtain ⟨d, rfl, hG⟩ := md_dd hH
  exact ag_met (by decide) rfl (Nat.le_of_ble_eq_true rfl) (ag_dr (ag_d1 rfl ag_d0) (w_Md_made_0 hb hG hyp))
def fn_Md_decide_304 (N : Nat) (x6 : Int32) (s1 : Int32) (S : MS) : Option (Int32 × MS) := some ((x6), (va_up S.1 37 (s1), S.2))
def fn_Md_decide_286 (N : Nat) (s0 : Int32) (S : MS) : Option (Int32 × MS) := if (s0) = ((Int8.ofInt (-4)).toInt32) then (fn_Md_decide_304 N (s0) (S.1 37) S) else (fn_Md_decide_304 N (s0) (Int32.ofInt 0) S)
def fn_Md_decide_266 (N : Nat) (x1 : Int32) (x3 : Int32) (x5 : Int32) (S : MS) : Option (Int32 × MS) := if (x1) = (0) then (if (x3) = (0) then (fn_Md_decide_286 N (x5) S) else (fn_Md_decide_286 N ((Int8.ofInt (-4)).toInt32) S)) else (fn_Md_decide_286 N ((Int8.ofInt (-3)).toInt32) S)
def fn_Md_decide_260 (N : Nat) (k182 : Int32 → Int32 → Int32 → Int32 → Int32 → MS → Option (Int32 × MS)) (x1 : Int32) (x3 : Int32) (x4 : Int32) (x5 : Int32) (x6 : Int32) (S : MS) : Option (Int32 × MS) := k182 (x1) (x3) (x4) (x5) ((x6) + Int32.ofInt (1)) S
def fn_Md_decide_255 (N : Nat) (k182 : Int32 → Int32 → Int32 → Int32 → Int32 → MS → Option (Int32 × MS)) (x1 : Int32) (x3 : Int32) (x4 : Int32) (x6 : Int32) (s0 : Int32) (S : MS) : Option (Int32 × MS) := fn_Md_decide_260 N k182 (x1) (x3) ((x4) + Int32.ofInt (1)) (s0) (x6) S
def fn_Md_decide_182 (N : Nat) : Nat → Int32 → Int32 → Int32 → Int32 → Int32 → MS → Option (Int32 × MS)
  | 0, _, _, _, _, _, _ => none
  | n + 1, x1, x3, x4, x5, x6, S => if (S.1 15) ≤ (x6) then (fn_Md_decide_266 N (x1) (x3) (x5) S) else (if (x5) = ((Int8.ofInt (-6)).toInt32) then (if (x1) = (0) then (if md_in (x6) (md_len 9) = true then (if (S.2 9 (x6).toNatClampNeg) ≤ (Int32.ofInt 3) then (fn_Md_decide_260 N (fn_Md_decide_182 N n) (x1) (x3) (x4) (x5) (x6) S) else ((fn_Md_bindings N (x6) (Int32.ofInt 0) S).bind fun r1 => if (r1.2.1 43) = (0) then (fn_Md_decide_255 N (fn_Md_decide_182 N n) (r1.2.1 44) (x3) (x4) (x6) ((Int8.ofInt (-6)).toInt32) r1.2) else (if md_in (x6) (md_len 9) = true then (if (r1.2.2 9 (x6).toNatClampNeg) = (Int32.ofInt 4) then (fn_Md_decide_255 N (fn_Md_decide_182 N n) (r1.2.1 44) (x3) (x4) (x6) (x4) r1.2) else (fn_Md_decide_255 N (fn_Md_decide_182 N n) (r1.2.1 44) (x3) (x4) (x6) ((Int8.ofInt (-5)).toInt32) r1.2)) else none))) else none) else (fn_Md_decide_266 N (x1) (x3) (x5) S)) else (fn_Md_decide_266 N (x1) (x3) (x5) S))
theorem fe_Md_decide_182 (N : Nat) (n : Nat) (x1 : Int32) (x3 : Int32) (x4 : Int32) (x5 : Int32) (x6 : Int32) (S : MS) : fn_Md_decide_182 N (n + 1) x1 x3 x4 x5 x6 S = (if (S.1 15) ≤ (x6) then (fn_Md_decide_266 N (x1) (x3) (x5) S) else (if (x5) = ((Int8.ofInt (-6)).toInt32) then (if (x1) = (0) then (if md_in (x6) (md_len 9) = true then (if (S.2 9 (x6).toNatClampNeg) ≤ (Int32.ofInt 3) then (fn_Md_decide_260 N (fn_Md_decide_182 N n) (x1) (x3) (x4) (x5) (x6) S) else ((fn_Md_bindings N (x6) (Int32.ofInt 0) S).bind fun r1 => if (r1.2.1 43) = (0) then (fn_Md_decide_255 N (fn_Md_decide_182 N n) (r1.2.1 44) (x3) (x4) (x6) ((Int8.ofInt (-6)).toInt32) r1.2) else (if md_in (x6) (md_len 9) = true then (if (r1.2.2 9 (x6).toNatClampNeg) = (Int32.ofInt 4) then (fn_Md_decide_255 N (fn_Md_decide_182 N n) (r1.2.1 44) (x3) (x4) (x6) (x4) r1.2) else (fn_Md_decide_255 N (fn_Md_decide_182 N n) (r1.2.1 44) (x3) (x4) (x6) ((Int8.ofInt (-5)).toInt32) r1.2)) else none))) else none) else (fn_Md_decide_266 N (x1) (x3) (x5) S)) else (fn_Md_decide_266 N (x1) (x3) (x5) S))) := rfl
def fn_Md_decide_166 (N : Nat) (k14 : Int32 → Int32 → Int32 → Int32 → MS → Option (Int32 × MS)) (x1 : Int32) (x2 : Int32) (x3 : Int32) (x4 : Int32) (S : MS) : Option (Int32 × MS) := k14 (x1) (x2) (x3) ((x4) + Int32.ofInt (1)) S
def fn_Md_decide_162 (N : Nat) (k14 : Int32 → Int32 → Int32 → Int32 → MS → Option (Int32 × MS)) (x1 : Int32) (x2 : Int32) (x4 : Int32) (s0 : Int32) (S : MS) : Option (Int32 × MS) := fn_Md_decide_166 N k14 (x1) ((x2) + Int32.ofInt (1)) (s0) (x4) S
def fn_Md_decide_157 (N : Nat) (k14 : Int32 → Int32 → Int32 → Int32 → MS → Option (Int32 × MS)) (x1 : Int32) (x2 : Int32) (x4 : Int32) (S : MS) : Option (Int32 × MS) := fn_Md_decide_162 N k14 (x1) (x2) (x4) (Int32.ofInt 1) S
def fn_Md_decide_145 (N : Nat) (k14 : Int32 → Int32 → Int32 → Int32 → MS → Option (Int32 × MS)) (x1 : Int32) (x2 : Int32) (x3 : Int32) (x4 : Int32) (x5 : Int32) (s1 : Int32) (S : MS) : Option (Int32 × MS) := if (x3) = (0) then (if (x5) = (0) then (fn_Md_decide_157 N k14 (x1) (x2) (x4) (va_up S.1 37 (s1), S.2)) else (fn_Md_decide_162 N k14 (x1) (x2) (x4) (Int32.ofInt 0) (va_up S.1 37 (s1), S.2))) else (fn_Md_decide_157 N k14 (x1) (x2) (x4) (va_up S.1 37 (s1), S.2))
def fn_Md_decide_141 (N : Nat) (k14 : Int32 → Int32 → Int32 → Int32 → MS → Option (Int32 × MS)) (x1 : Int32) (x2 : Int32) (x3 : Int32) (x4 : Int32) (x5 : Int32) (S : MS) : Option (Int32 × MS) := fn_Md_decide_145 N k14 (x1) (x2) (x3) (x4) (x5) (S.1 37) S
def fn_Md_decide_116 (N : Nat) (k14 : Int32 → Int32 → Int32 → Int32 → MS → Option (Int32 × MS)) (x1 : Int32) (x2 : Int32) (x3 : Int32) (x4 : Int32) (s0 : Int32) (S : MS) : Option (Int32 × MS) := if (s0) = (0) then (if ((Int8.ofInt (31)).toInt32) ≤ (x2) then (fn_Md_decide_141 N k14 (x1) (x2) (x3) (x4) (s0) S) else (fn_Md_decide_145 N k14 (x1) (x2) (x3) (x4) (s0) ((S.1 37) ||| ((Int32.ofInt 1) <<< ((x2) &&& 31))) S)) else (fn_Md_decide_141 N k14 (x1) (x2) (x3) (x4) (s0) S)
def fn_Md_decide_115 (N : Nat) (k14 : Int32 → Int32 → Int32 → Int32 → MS → Option (Int32 × MS)) (x1 : Int32) (x2 : Int32) (x3 : Int32) (x4 : Int32) (S : MS) : Option (Int32 × MS) := fn_Md_decide_116 N k14 (x1) (x2) (x3) (x4) (Int32.ofInt 0) S
def fn_Md_decide_67 (N : Nat) (k14 : Int32 → Int32 → Int32 → Int32 → MS → Option (Int32 × MS)) (x2 : Int32) (x3 : Int32) (x4 : Int32) (s0 : Int32) (S : MS) : Option (Int32 × MS) := if md_in (x4) (md_len 9) = true then (if (S.2 9 (x4).toNatClampNeg) ≤ (Int32.ofInt 1) then (fn_Md_decide_166 N k14 (s0) (x2) (x3) (x4) S) else (if md_in (x4) (md_len 9) = true then (if (S.2 9 (x4).toNatClampNeg) = (Int32.ofInt 2) then (fn_Md_decide_116 N k14 (s0) (x2) (x3) (x4) (S.1 43) S) else (if (S.1 42) = (0) then (fn_Md_decide_115 N k14 (s0) (x2) (x3) (x4) S) else (if (S.1 45) = (0) then (fn_Md_decide_115 N k14 (s0) (x2) (x3) (x4) S) else (fn_Md_decide_116 N k14 (s0) (x2) (x3) (x4) (Int32.ofInt 1) S)))) else none)) else none
def fn_Md_decide_62 (N : Nat) (k14 : Int32 → Int32 → Int32 → Int32 → MS → Option (Int32 × MS)) (x2 : Int32) (x3 : Int32) (x4 : Int32) (S : MS) : Option (Int32 × MS) := fn_Md_decide_67 N k14 (x2) (x3) (x4) (Int32.ofInt 1) S
def fn_Md_decide_14 (N : Nat) : Nat → Int32 → Int32 → Int32 → Int32 → MS → Option (Int32 × MS)
  | 0, _, _, _, _, _ => none
  | n + 1, x1, x2, x3, x4, S => if (S.1 15) ≤ (x4) then (fn_Md_decide_182 N N (x1) (x3) (Int32.ofInt 0) ((Int8.ofInt (-6)).toInt32) (Int32.ofInt 0) S) else (if md_in (x4) (md_len 9) = true then (if (S.2 9 (x4).toNatClampNeg) ≤ (0) then (fn_Md_decide_166 N (fn_Md_decide_14 N n) (x1) (x2) (x3) (x4) S) else (if md_in (x4) (md_len 9) = true then (if (Int32.ofInt 4) ≤ (S.2 9 (x4).toNatClampNeg) then (fn_Md_decide_166 N (fn_Md_decide_14 N n) (x1) (x2) (x3) (x4) S) else ((fn_Md_bindings N (x4) (Int32.ofInt 0) S).bind fun r1 => if (x1) = (0) then (if (r1.2.1 44) = (0) then (fn_Md_decide_67 N (fn_Md_decide_14 N n) (x2) (x3) (x4) (Int32.ofInt 0) r1.2) else (fn_Md_decide_62 N (fn_Md_decide_14 N n) (x2) (x3) (x4) r1.2)) else (fn_Md_decide_62 N (fn_Md_decide_14 N n) (x2) (x3) (x4) r1.2))) else none)) else none)
theorem fe_Md_decide_14 (N : Nat) (n : Nat) (x1 : Int32) (x2 : Int32) (x3 : Int32) (x4 : Int32) (S : MS) : fn_Md_decide_14 N (n + 1) x1 x2 x3 x4 S = (if (S.1 15) ≤ (x4) then (fn_Md_decide_182 N N (x1) (x3) (Int32.ofInt 0) ((Int8.ofInt (-6)).toInt32) (Int32.ofInt 0) S) else (if md_in (x4) (md_len 9) = true then (if (S.2 9 (x4).toNatClampNeg) ≤ (0) then (fn_Md_decide_166 N (fn_Md_decide_14 N n) (x1) (x2) (x3) (x4) S) else (if md_in (x4) (md_len 9) = true then (if (Int32.ofInt 4) ≤ (S.2 9 (x4).toNatClampNeg) then (fn_Md_decide_166 N (fn_Md_decide_14 N n) (x1) (x2) (x3) (x4) S) else ((fn_Md_bindings N (x4) (Int32.ofInt 0) S).bind fun r1 => if (x1) = (0) then (if (r1.2.1 44) = (0) then (fn_Md_decide_67 N (fn_Md_decide_14 N n) (x2) (x3) (x4) (Int32.ofInt 0) r1.2) else (fn_Md_decide_62 N (fn_Md_decide_14 N n) (x2) (x3) (x4) r1.2)) else (fn_Md_decide_62 N (fn_Md_decide_14 N n) (x2) (x3) (x4) r1.2))) else none)) else none)) := rfl
def fn_Md_decide_0 (N : Nat) (S : MS) : Option (Int32 × MS) := fn_Md_decide_14 N N (Int32.ofInt 0) (Int32.ofInt 0) (Int32.ofInt 0) (Int32.ofInt 0) (va_up S.1 37 (Int32.ofInt 0), S.2)
def fn_Md_decide (N : Nat) (S : MS) : Option (Int32 × MS) := fn_Md_decide_0 N S
theorem w_Md_decide_304 {l : Launch} {G : ag_G} {d N : Nat} {h : ag_H} {a : Nat} (hb : md_ok h a) (hH : 3 ≤ d) {x6 : Int32} {s1 : Int32} {S : MS} {res : Int32 × MS} (hyp : fn_Md_decide_304 N x6 s1 S = some res) : ag_ev gc_P l G m_Md_decide (d + 1) (ag_ret gc_P G (fun v h' => v = some (.int res.1) ∧ h' = md_up h a res.2)) 304 [(0, .ref a), (6, .int (x6))] [.int (s1), .ref a] (md_up h a S) := by
  unfold fn_Md_decide_304 at hyp
  refine md_puti hb d_Md_decide_304 fl_Md_264 rfl (by decide) rfl rfl ?_
  refine ag_iload d_Md_decide_307 rfl ?_
  cases hyp
  exact ag_iret d_Md_decide_309 rfl rfl ⟨rfl, rfl⟩
theorem w_Md_decide_286 {l : Launch} {G : ag_G} {d N : Nat} {h : ag_H} {a : Nat} (hb : md_ok h a) (hH : 3 ≤ d) {s0 : Int32} {S : MS} {res : Int32 × MS} (hyp : fn_Md_decide_286 N s0 S = some res) : ag_ev gc_P l G m_Md_decide (d + 1) (ag_ret gc_P G (fun v h' => v = some (.int res.1) ∧ h' = md_up h a res.2)) 286 [(0, .ref a)] [.int (s0)] (md_up h a S) := by
  unfold fn_Md_decide_286 at hyp
  refine ag_istore d_Md_decide_286 (by decide) ?_
  refine ag_aload_n d_Md_decide_288 rfl ?_
  refine ag_iload d_Md_decide_289 rfl ?_
  refine ag_bipush d_Md_decide_291 ?_
  refine ag_icmp_ne d_Md_decide_293 rfl (fun q => ?_) (fun q => ?_)
  · replace hyp := md_ifn q hyp
    refine ag_iconst d_Md_decide_303 ?_
    exact ag_dr (ag_d1 rfl (ag_d1 rfl ag_d0)) (w_Md_decide_304 hb hH hyp)
  · replace hyp := md_ifp q hyp
    refine ag_aload_n d_Md_decide_296 rfl ?_
    refine md_get hb d_Md_decide_297 fr_Md_264 rfl ?_
    refine ag_goto d_Md_decide_300 rfl ?_
    exact ag_dr (ag_d1 rfl (ag_d1 rfl ag_d0)) (w_Md_decide_304 hb hH hyp)
theorem w_Md_decide_266 {l : Launch} {G : ag_G} {d N : Nat} {h : ag_H} {a : Nat} (hb : md_ok h a) (hH : 3 ≤ d) {x1 : Int32} {x3 : Int32} {x5 : Int32} {S : MS} {res : Int32 × MS} (hyp : fn_Md_decide_266 N x1 x3 x5 S = some res) : ag_ev gc_P l G m_Md_decide (d + 1) (ag_ret gc_P G (fun v h' => v = some (.int res.1) ∧ h' = md_up h a res.2)) 266 [(0, .ref a), (1, .int (x1)), (3, .int (x3)), (5, .int (x5))] [] (md_up h a S) := by
  unfold fn_Md_decide_266 at hyp
  refine ag_iload_n d_Md_decide_266 rfl ?_
  refine ag_if_eq d_Md_decide_267 rfl (fun q => ?_) (fun q => ?_)
  · replace hyp := md_ifp q hyp
    refine ag_iload_n d_Md_decide_275 rfl ?_
    refine ag_if_eq d_Md_decide_276 rfl (fun q => ?_) (fun q => ?_)
    · replace hyp := md_ifp q hyp
      refine ag_iload d_Md_decide_284 rfl ?_
      exact ag_dr (ag_d1 rfl ag_d0) (w_Md_decide_286 hb hH hyp)
    · replace hyp := md_ifn q hyp
      refine ag_bipush d_Md_decide_279 ?_
      refine ag_goto d_Md_decide_281 rfl ?_
      exact ag_dr (ag_d1 rfl ag_d0) (w_Md_decide_286 hb hH hyp)
  · replace hyp := md_ifn q hyp
    refine ag_bipush d_Md_decide_270 ?_
    refine ag_goto d_Md_decide_272 rfl ?_
    exact ag_dr (ag_d1 rfl ag_d0) (w_Md_decide_286 hb hH hyp)
theorem w_Md_decide_260 {l : Launch} {G : ag_G} {d N : Nat} {h : ag_H} {a : Nat} (hb : md_ok h a) (hH : 3 ≤ d) {k182 : Int32 → Int32 → Int32 → Int32 → Int32 → MS → Option (Int32 × MS)} (hk182 : ∀ (res : Int32 × MS) (y1 : Int32) (y3 : Int32) (y4 : Int32) (y5 : Int32) (y6 : Int32) (T : MS), k182 y1 y3 y4 y5 y6 T = some res → ag_ev gc_P l G m_Md_decide (d + 1) (ag_ret gc_P G (fun v h' => v = some (.int res.1) ∧ h' = md_up h a res.2)) 182 [(0, .ref a), (1, .int (y1)), (3, .int (y3)), (4, .int (y4)), (5, .int (y5)), (6, .int (y6))] [] (md_up h a T)) {x1 : Int32} {x3 : Int32} {x4 : Int32} {x5 : Int32} {x6 : Int32} {S : MS} {res : Int32 × MS} (hyp : fn_Md_decide_260 N k182 x1 x3 x4 x5 x6 S = some res) : ag_ev gc_P l G m_Md_decide (d + 1) (ag_ret gc_P G (fun v h' => v = some (.int res.1) ∧ h' = md_up h a res.2)) 260 [(0, .ref a), (1, .int (x1)), (3, .int (x3)), (4, .int (x4)), (5, .int (x5)), (6, .int (x6))] [] (md_up h a S) := by
  unfold fn_Md_decide_260 at hyp
  refine ag_iinc d_Md_decide_260 rfl (by decide) ?_
  refine ag_goto d_Md_decide_263 rfl ?_
  exact ag_dr (ag_d1 rfl (ag_d1 rfl (ag_d1 rfl (ag_d1 rfl (ag_d1 rfl (ag_d1 rfl ag_d0)))))) (hk182 _ _ _ _ _ _ _ hyp)
theorem w_Md_decide_255 {l : Launch} {G : ag_G} {d N : Nat} {h : ag_H} {a : Nat} (hb : md_ok h a) (hH : 3 ≤ d) {k182 : Int32 → Int32 → Int32 → Int32 → Int32 → MS → Option (Int32 × MS)} (hk182 : ∀ (res : Int32 × MS) (y1 : Int32) (y3 : Int32) (y4 : Int32) (y5 : Int32) (y6 : Int32) (T : MS), k182 y1 y3 y4 y5 y6 T = some res → ag_ev gc_P l G m_Md_decide (d + 1) (ag_ret gc_P G (fun v h' => v = some (.int res.1) ∧ h' = md_up h a res.2)) 182 [(0, .ref a), (1, .int (y1)), (3, .int (y3)), (4, .int (y4)), (5, .int (y5)), (6, .int (y6))] [] (md_up h a T)) {x1 : Int32} {x3 : Int32} {x4 : Int32} {x6 : Int32} {s0 : Int32} {S : MS} {res : Int32 × MS} (hyp : fn_Md_decide_255 N k182 x1 x3 x4 x6 s0 S = some res) : ag_ev gc_P l G m_Md_decide (d + 1) (ag_ret gc_P G (fun v h' => v = some (.int res.1) ∧ h' = md_up h a res.2)) 255 [(0, .ref a), (1, .int (x1)), (3, .int (x3)), (4, .int (x4)), (6, .int (x6))] [.int (s0)] (md_up h a S) := by
  unfold fn_Md_decide_255 at hyp
  refine ag_istore d_Md_decide_255 (by decide) ?_
  refine ag_iinc d_Md_decide_257 rfl (by decide) ?_
  exact ag_dr (ag_d1 rfl (ag_d1 rfl (ag_d1 rfl (ag_d1 rfl (ag_d1 rfl (ag_d1 rfl ag_d0)))))) (w_Md_decide_260 hb hH hk182 hyp)
theorem w_Md_decide_182 {l : Launch} {G : ag_G} {d N : Nat} {h : ag_H} {a : Nat} (hb : md_ok h a) (hH : 3 ≤ d) : ∀ (n : Nat) (res : Int32 × MS) (x1 : Int32) (x3 : Int32) (x4 : Int32) (x5 : Int32) (x6 : Int32) (S : MS) , fn_Md_decide_182 N n x1 x3 x4 x5 x6 S = some res → ag_ev gc_P l G m_Md_decide (d + 1) (ag_ret gc_P G (fun v h' => v = some (.int res.1) ∧ h' = md_up h a res.2)) 182 [(0, .ref a), (1, .int (x1)), (3, .int (x3)), (4, .int (x4)), (5, .int (x5)), (6, .int (x6))] [] (md_up h a S) := by
  intro n
  induction n with
  | zero =>
    intro res x1 x3 x4 x5 x6 S hyp
    cases hyp
  | succ n ih =>
    intro res x1 x3 x4 x5 x6 S hyp
    rw [fe_Md_decide_182] at hyp
    refine ag_iload d_Md_decide_182 rfl ?_
    refine ag_aload_n d_Md_decide_184 rfl ?_
    refine md_get hb d_Md_decide_185 fr_Md_252 rfl ?_
    refine ag_icmp_ge d_Md_decide_188 rfl (fun q => ?_) (fun q => ?_)
    · replace hyp := md_ifp q hyp
      exact ag_dr (ag_d1 rfl (ag_d1 rfl (ag_d1 rfl (ag_d1 rfl ag_d0)))) (w_Md_decide_266 hb hH hyp)
    · replace hyp := md_ifn q hyp
      refine ag_iload d_Md_decide_191 rfl ?_
      refine ag_bipush d_Md_decide_193 ?_
      refine ag_icmp_ne d_Md_decide_195 rfl (fun q => ?_) (fun q => ?_)
      · replace hyp := md_ifn q hyp
        exact ag_dr (ag_d1 rfl (ag_d1 rfl (ag_d1 rfl (ag_d1 rfl ag_d0)))) (w_Md_decide_266 hb hH hyp)
      · replace hyp := md_ifp q hyp
        refine ag_iload_n d_Md_decide_198 rfl ?_
        refine ag_if_ne d_Md_decide_199 rfl (fun q => ?_) (fun q => ?_)
        · replace hyp := md_ifn q hyp
          exact ag_dr (ag_d1 rfl (ag_d1 rfl (ag_d1 rfl (ag_d1 rfl ag_d0)))) (w_Md_decide_266 hb hH hyp)
        · replace hyp := md_ifp q hyp
          refine ag_aload_n d_Md_decide_202 rfl ?_
          refine md_get hb d_Md_decide_203 fr_Md_45 rfl ?_
          refine ag_iload d_Md_decide_206 rfl ?_
          obtain ⟨qi, hyp⟩ := md_ifs hyp
          refine md_ald hb d_Md_decide_208 (by decide) (by decide) rfl qi ?_
          refine ag_iconst d_Md_decide_209 ?_
          refine ag_icmp_le d_Md_decide_210 rfl (fun q => ?_) (fun q => ?_)
          · replace hyp := md_ifp q hyp
            exact ag_dr (ag_d1 rfl (ag_d1 rfl (ag_d1 rfl (ag_d1 rfl (ag_d1 rfl (ag_d1 rfl ag_d0)))))) (w_Md_decide_260 hb hH ih hyp)
          · replace hyp := md_ifn q hyp
            refine ag_aload_n d_Md_decide_213 rfl ?_
            refine ag_iload d_Md_decide_214 rfl ?_
            refine ag_iconst d_Md_decide_216 ?_
            obtain ⟨r1, e1, hyp⟩ := md_bd hyp
            refine ag_callv (as := [.int (x6), .int (Int32.ofInt 0)]) d_Md_decide_217 ml_Md_261 gw_1246 rfl sl_Md_bindings (md_at0 hb _) (Nat.le_of_ble_eq_true rfl) (w_Md_bindings hb (d := d) (by omega) e1) (fun v1 h1 q1 => ?_)
            obtain ⟨rfl, rfl⟩ := q1
            refine ag_aload_n d_Md_decide_220 rfl ?_
            refine md_get hb d_Md_decide_221 fr_Md_227 rfl ?_
            refine ag_istore_n d_Md_decide_224 (by decide) ?_
            refine ag_aload_n d_Md_decide_225 rfl ?_
            refine md_get hb d_Md_decide_226 fr_Md_224 rfl ?_
            refine ag_if_eq d_Md_decide_229 rfl (fun q => ?_) (fun q => ?_)
            · replace hyp := md_ifp q hyp
              refine ag_bipush d_Md_decide_253 ?_
              exact ag_dr (ag_d1 rfl (ag_d1 rfl (ag_d1 rfl (ag_d1 rfl (ag_d1 rfl ag_d0))))) (w_Md_decide_255 hb hH ih hyp)
            · replace hyp := md_ifn q hyp
              refine ag_aload_n d_Md_decide_232 rfl ?_
              refine md_get hb d_Md_decide_233 fr_Md_45 rfl ?_
              refine ag_iload d_Md_decide_236 rfl ?_
              obtain ⟨qi, hyp⟩ := md_ifs hyp
              refine md_ald hb d_Md_decide_238 (by decide) (by decide) rfl qi ?_
              refine ag_iconst d_Md_decide_239 ?_
              refine ag_icmp_ne d_Md_decide_240 rfl (fun q => ?_) (fun q => ?_)
              · replace hyp := md_ifn q hyp
                refine ag_bipush d_Md_decide_248 ?_
                refine ag_goto d_Md_decide_250 rfl ?_
                exact ag_dr (ag_d1 rfl (ag_d1 rfl (ag_d1 rfl (ag_d1 rfl (ag_d1 rfl ag_d0))))) (w_Md_decide_255 hb hH ih hyp)
              · replace hyp := md_ifp q hyp
                refine ag_iload d_Md_decide_243 rfl ?_
                refine ag_goto d_Md_decide_245 rfl ?_
                exact ag_dr (ag_d1 rfl (ag_d1 rfl (ag_d1 rfl (ag_d1 rfl (ag_d1 rfl ag_d0))))) (w_Md_decide_255 hb hH ih hyp)
theorem w_Md_decide_166 {l : Launch} {G : ag_G} {d N : Nat} {h : ag_H} {a : Nat} (hb : md_ok h a) (hH : 3 ≤ d) {k14 : Int32 → Int32 → Int32 → Int32 → MS → Option (Int32 × MS)} (hk14 : ∀ (res : Int32 × MS) (y1 : Int32) (y2 : Int32) (y3 : Int32) (y4 : Int32) (T : MS), k14 y1 y2 y3 y4 T = some res → ag_ev gc_P l G m_Md_decide (d + 1) (ag_ret gc_P G (fun v h' => v = some (.int res.1) ∧ h' = md_up h a res.2)) 14 [(0, .ref a), (1, .int (y1)), (2, .int (y2)), (3, .int (y3)), (4, .int (y4))] [] (md_up h a T)) {x1 : Int32} {x2 : Int32} {x3 : Int32} {x4 : Int32} {S : MS} {res : Int32 × MS} (hyp : fn_Md_decide_166 N k14 x1 x2 x3 x4 S = some res) : ag_ev gc_P l G m_Md_decide (d + 1) (ag_ret gc_P G (fun v h' => v = some (.int res.1) ∧ h' = md_up h a res.2)) 166 [(0, .ref a), (1, .int (x1)), (2, .int (x2)), (3, .int (x3)), (4, .int (x4))] [] (md_up h a S) := by
  unfold fn_Md_decide_166 at hyp
  refine ag_iinc d_Md_decide_166 rfl (by decide) ?_
  refine ag_goto d_Md_decide_169 rfl ?_
  exact ag_dr (ag_d1 rfl (ag_d1 rfl (ag_d1 rfl (ag_d1 rfl (ag_d1 rfl ag_d0))))) (hk14 _ _ _ _ _ _ hyp)
theorem w_Md_decide_162 {l : Launch} {G : ag_G} {d N : Nat} {h : ag_H} {a : Nat} (hb : md_ok h a) (hH : 3 ≤ d) {k14 : Int32 → Int32 → Int32 → Int32 → MS → Option (Int32 × MS)} (hk14 : ∀ (res : Int32 × MS) (y1 : Int32) (y2 : Int32) (y3 : Int32) (y4 : Int32) (T : MS), k14 y1 y2 y3 y4 T = some res → ag_ev gc_P l G m_Md_decide (d + 1) (ag_ret gc_P G (fun v h' => v = some (.int res.1) ∧ h' = md_up h a res.2)) 14 [(0, .ref a), (1, .int (y1)), (2, .int (y2)), (3, .int (y3)), (4, .int (y4))] [] (md_up h a T)) {x1 : Int32} {x2 : Int32} {x4 : Int32} {s0 : Int32} {S : MS} {res : Int32 × MS} (hyp : fn_Md_decide_162 N k14 x1 x2 x4 s0 S = some res) : ag_ev gc_P l G m_Md_decide (d + 1) (ag_ret gc_P G (fun v h' => v = some (.int res.1) ∧ h' = md_up h a res.2)) 162 [(0, .ref a), (1, .int (x1)), (2, .int (x2)), (4, .int (x4))] [.int (s0)] (md_up h a S) := by
  unfold fn_Md_decide_162 at hyp
  refine ag_istore_n d_Md_decide_162 (by decide) ?_
  refine ag_iinc d_Md_decide_163 rfl (by decide) ?_
  exact ag_dr (ag_d1 rfl (ag_d1 rfl (ag_d1 rfl (ag_d1 rfl (ag_d1 rfl ag_d0))))) (w_Md_decide_166 hb hH hk14 hyp)
theorem w_Md_decide_157 {l : Launch} {G : ag_G} {d N : Nat} {h : ag_H} {a : Nat} (hb : md_ok h a) (hH : 3 ≤ d) {k14 : Int32 → Int32 → Int32 → Int32 → MS → Option (Int32 × MS)} (hk14 : ∀ (res : Int32 × MS) (y1 : Int32) (y2 : Int32) (y3 : Int32) (y4 : Int32) (T : MS), k14 y1 y2 y3 y4 T = some res → ag_ev gc_P l G m_Md_decide (d + 1) (ag_ret gc_P G (fun v h' => v = some (.int res.1) ∧ h' = md_up h a res.2)) 14 [(0, .ref a), (1, .int (y1)), (2, .int (y2)), (3, .int (y3)), (4, .int (y4))] [] (md_up h a T)) {x1 : Int32} {x2 : Int32} {x4 : Int32} {S : MS} {res : Int32 × MS} (hyp : fn_Md_decide_157 N k14 x1 x2 x4 S = some res) : ag_ev gc_P l G m_Md_decide (d + 1) (ag_ret gc_P G (fun v h' => v = some (.int res.1) ∧ h' = md_up h a res.2)) 157 [(0, .ref a), (1, .int (x1)), (2, .int (x2)), (4, .int (x4))] [] (md_up h a S) := by
  unfold fn_Md_decide_157 at hyp
  refine ag_iconst d_Md_decide_157 ?_
  refine ag_goto d_Md_decide_158 rfl ?_
  exact ag_dr (ag_d1 rfl (ag_d1 rfl (ag_d1 rfl (ag_d1 rfl ag_d0)))) (w_Md_decide_162 hb hH hk14 hyp)
theorem w_Md_decide_145 {l : Launch} {G : ag_G} {d N : Nat} {h : ag_H} {a : Nat} (hb : md_ok h a) (hH : 3 ≤ d) {k14 : Int32 → Int32 → Int32 → Int32 → MS → Option (Int32 × MS)} (hk14 : ∀ (res : Int32 × MS) (y1 : Int32) (y2 : Int32) (y3 : Int32) (y4 : Int32) (T : MS), k14 y1 y2 y3 y4 T = some res → ag_ev gc_P l G m_Md_decide (d + 1) (ag_ret gc_P G (fun v h' => v = some (.int res.1) ∧ h' = md_up h a res.2)) 14 [(0, .ref a), (1, .int (y1)), (2, .int (y2)), (3, .int (y3)), (4, .int (y4))] [] (md_up h a T)) {x1 : Int32} {x2 : Int32} {x3 : Int32} {x4 : Int32} {x5 : Int32} {s1 : Int32} {S : MS} {res : Int32 × MS} (hyp : fn_Md_decide_145 N k14 x1 x2 x3 x4 x5 s1 S = some res) : ag_ev gc_P l G m_Md_decide (d + 1) (ag_ret gc_P G (fun v h' => v = some (.int res.1) ∧ h' = md_up h a res.2)) 145 [(0, .ref a), (1, .int (x1)), (2, .int (x2)), (3, .int (x3)), (4, .int (x4)), (5, .int (x5))] [.int (s1), .ref a] (md_up h a S) := by
  unfold fn_Md_decide_145 at hyp
  refine md_puti hb d_Md_decide_145 fl_Md_264 rfl (by decide) rfl rfl ?_
  refine ag_iload_n d_Md_decide_148 rfl ?_
  refine ag_if_ne d_Md_decide_149 rfl (fun q => ?_) (fun q => ?_)
  · replace hyp := md_ifn q hyp
    exact ag_dr (ag_d1 rfl (ag_d1 rfl (ag_d1 rfl (ag_d1 rfl ag_d0)))) (w_Md_decide_157 hb hH hk14 hyp)
  · replace hyp := md_ifp q hyp
    refine ag_iload d_Md_decide_152 rfl ?_
    refine ag_if_ne d_Md_decide_154 rfl (fun q => ?_) (fun q => ?_)
    · replace hyp := md_ifn q hyp
      refine ag_iconst d_Md_decide_161 ?_
      exact ag_dr (ag_d1 rfl (ag_d1 rfl (ag_d1 rfl (ag_d1 rfl ag_d0)))) (w_Md_decide_162 hb hH hk14 hyp)
    · replace hyp := md_ifp q hyp
      exact ag_dr (ag_d1 rfl (ag_d1 rfl (ag_d1 rfl (ag_d1 rfl ag_d0)))) (w_Md_decide_157 hb hH hk14 hyp)
theorem w_Md_decide_141 {l : Launch} {G : ag_G} {d N : Nat} {h : ag_H} {a : Nat} (hb : md_ok h a) (hH : 3 ≤ d) {k14 : Int32 → Int32 → Int32 → Int32 → MS → Option (Int32 × MS)} (hk14 : ∀ (res : Int32 × MS) (y1 : Int32) (y2 : Int32) (y3 : Int32) (y4 : Int32) (T : MS), k14 y1 y2 y3 y4 T = some res → ag_ev gc_P l G m_Md_decide (d + 1) (ag_ret gc_P G (fun v h' => v = some (.int res.1) ∧ h' = md_up h a res.2)) 14 [(0, .ref a), (1, .int (y1)), (2, .int (y2)), (3, .int (y3)), (4, .int (y4))] [] (md_up h a T)) {x1 : Int32} {x2 : Int32} {x3 : Int32} {x4 : Int32} {x5 : Int32} {S : MS} {res : Int32 × MS} (hyp : fn_Md_decide_141 N k14 x1 x2 x3 x4 x5 S = some res) : ag_ev gc_P l G m_Md_decide (d + 1) (ag_ret gc_P G (fun v h' => v = some (.int res.1) ∧ h' = md_up h a res.2)) 141 [(0, .ref a), (1, .int (x1)), (2, .int (x2)), (3, .int (x3)), (4, .int (x4)), (5, .int (x5))] [.ref a] (md_up h a S) := by
  unfold fn_Md_decide_141 at hyp
  refine ag_aload_n d_Md_decide_141 rfl ?_
  refine md_get hb d_Md_decide_142 fr_Md_264 rfl ?_
  exact ag_dr (ag_d1 rfl (ag_d1 rfl (ag_d1 rfl (ag_d1 rfl (ag_d1 rfl (ag_d1 rfl ag_d0)))))) (w_Md_decide_145 hb hH hk14 hyp)
theorem w_Md_decide_116 {l : Launch} {G : ag_G} {d N : Nat} {h : ag_H} {a : Nat} (hb : md_ok h a) (hH : 3 ≤ d) {k14 : Int32 → Int32 → Int32 → Int32 → MS → Option (Int32 × MS)} (hk14 : ∀ (res : Int32 × MS) (y1 : Int32) (y2 : Int32) (y3 : Int32) (y4 : Int32) (T : MS), k14 y1 y2 y3 y4 T = some res → ag_ev gc_P l G m_Md_decide (d + 1) (ag_ret gc_P G (fun v h' => v = some (.int res.1) ∧ h' = md_up h a res.2)) 14 [(0, .ref a), (1, .int (y1)), (2, .int (y2)), (3, .int (y3)), (4, .int (y4))] [] (md_up h a T)) {x1 : Int32} {x2 : Int32} {x3 : Int32} {x4 : Int32} {s0 : Int32} {S : MS} {res : Int32 × MS} (hyp : fn_Md_decide_116 N k14 x1 x2 x3 x4 s0 S = some res) : ag_ev gc_P l G m_Md_decide (d + 1) (ag_ret gc_P G (fun v h' => v = some (.int res.1) ∧ h' = md_up h a res.2)) 116 [(0, .ref a), (1, .int (x1)), (2, .int (x2)), (3, .int (x3)), (4, .int (x4))] [.int (s0)] (md_up h a S) := by
  unfold fn_Md_decide_116 at hyp
  refine ag_istore d_Md_decide_116 (by decide) ?_
  refine ag_aload_n d_Md_decide_118 rfl ?_
  refine ag_iload d_Md_decide_119 rfl ?_
  refine ag_if_ne d_Md_decide_121 rfl (fun q => ?_) (fun q => ?_)
  · replace hyp := md_ifn q hyp
    exact ag_dr (ag_d1 rfl (ag_d1 rfl (ag_d1 rfl (ag_d1 rfl (ag_d1 rfl (ag_d1 rfl ag_d0)))))) (w_Md_decide_141 hb hH hk14 hyp)
  · replace hyp := md_ifp q hyp
    refine ag_iload_n d_Md_decide_124 rfl ?_
    refine ag_bipush d_Md_decide_125 ?_
    refine ag_icmp_ge d_Md_decide_127 rfl (fun q => ?_) (fun q => ?_)
    · replace hyp := md_ifp q hyp
      exact ag_dr (ag_d1 rfl (ag_d1 rfl (ag_d1 rfl (ag_d1 rfl (ag_d1 rfl (ag_d1 rfl ag_d0)))))) (w_Md_decide_141 hb hH hk14 hyp)
    · replace hyp := md_ifn q hyp
      refine ag_aload_n d_Md_decide_130 rfl ?_
      refine md_get hb d_Md_decide_131 fr_Md_264 rfl ?_
      refine ag_iconst d_Md_decide_134 ?_
      refine ag_iload_n d_Md_decide_135 rfl ?_
      refine ag_ishl d_Md_decide_136 ?_
      refine ag_ior d_Md_decide_137 ?_
      refine ag_goto d_Md_decide_138 rfl ?_
      exact ag_dr (ag_d1 rfl (ag_d1 rfl (ag_d1 rfl (ag_d1 rfl (ag_d1 rfl (ag_d1 rfl ag_d0)))))) (w_Md_decide_145 hb hH hk14 hyp)
theorem w_Md_decide_115 {l : Launch} {G : ag_G} {d N : Nat} {h : ag_H} {a : Nat} (hb : md_ok h a) (hH : 3 ≤ d) {k14 : Int32 → Int32 → Int32 → Int32 → MS → Option (Int32 × MS)} (hk14 : ∀ (res : Int32 × MS) (y1 : Int32) (y2 : Int32) (y3 : Int32) (y4 : Int32) (T : MS), k14 y1 y2 y3 y4 T = some res → ag_ev gc_P l G m_Md_decide (d + 1) (ag_ret gc_P G (fun v h' => v = some (.int res.1) ∧ h' = md_up h a res.2)) 14 [(0, .ref a), (1, .int (y1)), (2, .int (y2)), (3, .int (y3)), (4, .int (y4))] [] (md_up h a T)) {x1 : Int32} {x2 : Int32} {x3 : Int32} {x4 : Int32} {S : MS} {res : Int32 × MS} (hyp : fn_Md_decide_115 N k14 x1 x2 x3 x4 S = some res) : ag_ev gc_P l G m_Md_decide (d + 1) (ag_ret gc_P G (fun v h' => v = some (.int res.1) ∧ h' = md_up h a res.2)) 115 [(0, .ref a), (1, .int (x1)), (2, .int (x2)), (3, .int (x3)), (4, .int (x4))] [] (md_up h a S) := by
  unfold fn_Md_decide_115 at hyp
  refine ag_iconst d_Md_decide_115 ?_
  exact ag_dr (ag_d1 rfl (ag_d1 rfl (ag_d1 rfl (ag_d1 rfl (ag_d1 rfl ag_d0))))) (w_Md_decide_116 hb hH hk14 hyp)
theorem w_Md_decide_67 {l : Launch} {G : ag_G} {d N : Nat} {h : ag_H} {a : Nat} (hb : md_ok h a) (hH : 3 ≤ d) {k14 : Int32 → Int32 → Int32 → Int32 → MS → Option (Int32 × MS)} (hk14 : ∀ (res : Int32 × MS) (y1 : Int32) (y2 : Int32) (y3 : Int32) (y4 : Int32) (T : MS), k14 y1 y2 y3 y4 T = some res → ag_ev gc_P l G m_Md_decide (d + 1) (ag_ret gc_P G (fun v h' => v = some (.int res.1) ∧ h' = md_up h a res.2)) 14 [(0, .ref a), (1, .int (y1)), (2, .int (y2)), (3, .int (y3)), (4, .int (y4))] [] (md_up h a T)) {x2 : Int32} {x3 : Int32} {x4 : Int32} {s0 : Int32} {S : MS} {res : Int32 × MS} (hyp : fn_Md_decide_67 N k14 x2 x3 x4 s0 S = some res) : ag_ev gc_P l G m_Md_decide (d + 1) (ag_ret gc_P G (fun v h' => v = some (.int res.1) ∧ h' = md_up h a res.2)) 67 [(0, .ref a), (2, .int (x2)), (3, .int (x3)), (4, .int (x4))] [.int (s0)] (md_up h a S) := by
  unfold fn_Md_decide_67 at hyp
  refine ag_istore_n d_Md_decide_67 (by decide) ?_
  refine ag_aload_n d_Md_decide_68 rfl ?_
  refine md_get hb d_Md_decide_69 fr_Md_45 rfl ?_
  refine ag_iload d_Md_decide_72 rfl ?_
  obtain ⟨qi, hyp⟩ := md_ifs hyp
  refine md_ald hb d_Md_decide_74 (by decide) (by decide) rfl qi ?_
  refine ag_iconst d_Md_decide_75 ?_
  refine ag_icmp_le d_Md_decide_76 rfl (fun q => ?_) (fun q => ?_)
  · replace hyp := md_ifp q hyp
    exact ag_dr (ag_d1 rfl (ag_d1 rfl (ag_d1 rfl (ag_d1 rfl (ag_d1 rfl ag_d0))))) (w_Md_decide_166 hb hH hk14 hyp)
  · replace hyp := md_ifn q hyp
    refine ag_aload_n d_Md_decide_79 rfl ?_
    refine md_get hb d_Md_decide_80 fr_Md_45 rfl ?_
    refine ag_iload d_Md_decide_83 rfl ?_
    obtain ⟨qi, hyp⟩ := md_ifs hyp
    refine md_ald hb d_Md_decide_85 (by decide) (by decide) rfl qi ?_
    refine ag_iconst d_Md_decide_86 ?_
    refine ag_icmp_ne d_Md_decide_87 rfl (fun q => ?_) (fun q => ?_)
    · replace hyp := md_ifn q hyp
      refine ag_aload_n d_Md_decide_97 rfl ?_
      refine md_get hb d_Md_decide_98 fr_Md_221 rfl ?_
      refine ag_if_eq d_Md_decide_101 rfl (fun q => ?_) (fun q => ?_)
      · replace hyp := md_ifp q hyp
        exact ag_dr (ag_d1 rfl (ag_d1 rfl (ag_d1 rfl (ag_d1 rfl (ag_d1 rfl ag_d0))))) (w_Md_decide_115 hb hH hk14 hyp)
      · replace hyp := md_ifn q hyp
        refine ag_aload_n d_Md_decide_104 rfl ?_
        refine md_get hb d_Md_decide_105 fr_Md_230 rfl ?_
        refine ag_if_eq d_Md_decide_108 rfl (fun q => ?_) (fun q => ?_)
        · replace hyp := md_ifp q hyp
          exact ag_dr (ag_d1 rfl (ag_d1 rfl (ag_d1 rfl (ag_d1 rfl (ag_d1 rfl ag_d0))))) (w_Md_decide_115 hb hH hk14 hyp)
        · replace hyp := md_ifn q hyp
          refine ag_iconst d_Md_decide_111 ?_
          refine ag_goto d_Md_decide_112 rfl ?_
          exact ag_dr (ag_d1 rfl (ag_d1 rfl (ag_d1 rfl (ag_d1 rfl (ag_d1 rfl ag_d0))))) (w_Md_decide_116 hb hH hk14 hyp)
    · replace hyp := md_ifp q hyp
      refine ag_aload_n d_Md_decide_90 rfl ?_
      refine md_get hb d_Md_decide_91 fr_Md_224 rfl ?_
      refine ag_goto d_Md_decide_94 rfl ?_
      exact ag_dr (ag_d1 rfl (ag_d1 rfl (ag_d1 rfl (ag_d1 rfl (ag_d1 rfl ag_d0))))) (w_Md_decide_116 hb hH hk14 hyp)
theorem w_Md_decide_62 {l : Launch} {G : ag_G} {d N : Nat} {h : ag_H} {a : Nat} (hb : md_ok h a) (hH : 3 ≤ d) {k14 : Int32 → Int32 → Int32 → Int32 → MS → Option (Int32 × MS)} (hk14 : ∀ (res : Int32 × MS) (y1 : Int32) (y2 : Int32) (y3 : Int32) (y4 : Int32) (T : MS), k14 y1 y2 y3 y4 T = some res → ag_ev gc_P l G m_Md_decide (d + 1) (ag_ret gc_P G (fun v h' => v = some (.int res.1) ∧ h' = md_up h a res.2)) 14 [(0, .ref a), (1, .int (y1)), (2, .int (y2)), (3, .int (y3)), (4, .int (y4))] [] (md_up h a T)) {x2 : Int32} {x3 : Int32} {x4 : Int32} {S : MS} {res : Int32 × MS} (hyp : fn_Md_decide_62 N k14 x2 x3 x4 S = some res) : ag_ev gc_P l G m_Md_decide (d + 1) (ag_ret gc_P G (fun v h' => v = some (.int res.1) ∧ h' = md_up h a res.2)) 62 [(0, .ref a), (2, .int (x2)), (3, .int (x3)), (4, .int (x4))] [] (md_up h a S) := by
  unfold fn_Md_decide_62 at hyp
  refine ag_iconst d_Md_decide_62 ?_
  refine ag_goto d_Md_decide_63 rfl ?_
  exact ag_dr (ag_d1 rfl (ag_d1 rfl (ag_d1 rfl (ag_d1 rfl ag_d0)))) (w_Md_decide_67 hb hH hk14 hyp)
theorem w_Md_decide_14 {l : Launch} {G : ag_G} {d N : Nat} {h : ag_H} {a : Nat} (hb : md_ok h a) (hH : 3 ≤ d) : ∀ (n : Nat) (res : Int32 × MS) (x1 : Int32) (x2 : Int32) (x3 : Int32) (x4 : Int32) (S : MS) , fn_Md_decide_14 N n x1 x2 x3 x4 S = some res → ag_ev gc_P l G m_Md_decide (d + 1) (ag_ret gc_P G (fun v h' => v = some (.int res.1) ∧ h' = md_up h a res.2)) 14 [(0, .ref a), (1, .int (x1)), (2, .int (x2)), (3, .int (x3)), (4, .int (x4))] [] (md_up h a S) := by
  intro n
  induction n with
  | zero =>
    intro res x1 x2 x3 x4 S hyp
    cases hyp
  | succ n ih =>
    intro res x1 x2 x3 x4 S hyp
    rw [fe_Md_decide_14] at hyp
    refine ag_iload d_Md_decide_14 rfl ?_
    refine ag_aload_n d_Md_decide_16 rfl ?_
    refine md_get hb d_Md_decide_17 fr_Md_252 rfl ?_
    refine ag_icmp_ge d_Md_decide_20 rfl (fun q => ?_) (fun q => ?_)
    · replace hyp := md_ifp q hyp
      refine ag_iconst d_Md_decide_172 ?_
      refine ag_istore d_Md_decide_173 (by decide) ?_
      refine ag_bipush d_Md_decide_175 ?_
      refine ag_istore d_Md_decide_177 (by decide) ?_
      refine ag_iconst d_Md_decide_179 ?_
      refine ag_istore d_Md_decide_180 (by decide) ?_
      exact ag_dr (ag_d1 rfl (ag_d1 rfl (ag_d1 rfl (ag_d1 rfl (ag_d1 rfl (ag_d1 rfl ag_d0)))))) (w_Md_decide_182 hb hH N _ _ _ _ _ _ _ hyp)
    · replace hyp := md_ifn q hyp
      refine ag_aload_n d_Md_decide_23 rfl ?_
      refine md_get hb d_Md_decide_24 fr_Md_45 rfl ?_
      refine ag_iload d_Md_decide_27 rfl ?_
      obtain ⟨qi, hyp⟩ := md_ifs hyp
      refine md_ald hb d_Md_decide_29 (by decide) (by decide) rfl qi ?_
      refine ag_if_le d_Md_decide_30 rfl (fun q => ?_) (fun q => ?_)
      · replace hyp := md_ifp q hyp
        exact ag_dr (ag_d1 rfl (ag_d1 rfl (ag_d1 rfl (ag_d1 rfl (ag_d1 rfl ag_d0))))) (w_Md_decide_166 hb hH ih hyp)
      · replace hyp := md_ifn q hyp
        refine ag_aload_n d_Md_decide_33 rfl ?_
        refine md_get hb d_Md_decide_34 fr_Md_45 rfl ?_
        refine ag_iload d_Md_decide_37 rfl ?_
        obtain ⟨qi, hyp⟩ := md_ifs hyp
        refine md_ald hb d_Md_decide_39 (by decide) (by decide) rfl qi ?_
        refine ag_iconst d_Md_decide_40 ?_
        refine ag_icmp_ge d_Md_decide_41 rfl (fun q => ?_) (fun q => ?_)
        · replace hyp := md_ifp q hyp
          exact ag_dr (ag_d1 rfl (ag_d1 rfl (ag_d1 rfl (ag_d1 rfl (ag_d1 rfl ag_d0))))) (w_Md_decide_166 hb hH ih hyp)
        · replace hyp := md_ifn q hyp
          refine ag_aload_n d_Md_decide_44 rfl ?_
          refine ag_iload d_Md_decide_45 rfl ?_
          refine ag_iconst d_Md_decide_47 ?_
          obtain ⟨r1, e1, hyp⟩ := md_bd hyp
          refine ag_callv (as := [.int (x4), .int (Int32.ofInt 0)]) d_Md_decide_48 ml_Md_261 gw_1246 rfl sl_Md_bindings (md_at0 hb _) (Nat.le_of_ble_eq_true rfl) (w_Md_bindings hb (d := d) (by omega) e1) (fun v1 h1 q1 => ?_)
          obtain ⟨rfl, rfl⟩ := q1
          refine ag_iload_n d_Md_decide_51 rfl ?_
          refine ag_if_ne d_Md_decide_52 rfl (fun q => ?_) (fun q => ?_)
          · replace hyp := md_ifn q hyp
            exact ag_dr (ag_d1 rfl (ag_d1 rfl (ag_d1 rfl (ag_d1 rfl ag_d0)))) (w_Md_decide_62 hb hH ih hyp)
          · replace hyp := md_ifp q hyp
            refine ag_aload_n d_Md_decide_55 rfl ?_
            refine md_get hb d_Md_decide_56 fr_Md_227 rfl ?_
            refine ag_if_eq d_Md_decide_59 rfl (fun q => ?_) (fun q => ?_)
            · replace hyp := md_ifp q hyp
              refine ag_iconst d_Md_decide_66 ?_
              exact ag_dr (ag_d1 rfl (ag_d1 rfl (ag_d1 rfl (ag_d1 rfl ag_d0)))) (w_Md_decide_67 hb hH ih hyp)
            · replace hyp := md_ifn q hyp
              exact ag_dr (ag_d1 rfl (ag_d1 rfl (ag_d1 rfl (ag_d1 rfl ag_d0)))) (w_Md_decide_62 hb hH ih hyp)
theorem w_Md_decide_0 {l : Launch} {G : ag_G} {d N : Nat} {h : ag_H} {a : Nat} (hb : md_ok h a) (hH : 3 ≤ d) {S : MS} {res : Int32 × MS} (hyp : fn_Md_decide_0 N S = some res) : ag_ev gc_P l G m_Md_decide (d + 1) (ag_ret gc_P G (fun v h' => v = some (.int res.1) ∧ h' = md_up h a res.2)) 0 [(0, .ref a)] [] (md_up h a S) := by
  unfold fn_Md_decide_0 at hyp
  refine ag_iconst d_Md_decide_0 ?_
  refine ag_istore_n d_Md_decide_1 (by decide) ?_
  refine ag_aload_n d_Md_decide_2 rfl ?_
  refine ag_iconst d_Md_decide_3 ?_
  refine md_puti hb d_Md_decide_4 fl_Md_264 rfl (by decide) rfl rfl ?_
  refine ag_iconst d_Md_decide_7 ?_
  refine ag_istore_n d_Md_decide_8 (by decide) ?_
  refine ag_iconst d_Md_decide_9 ?_
  refine ag_istore_n d_Md_decide_10 (by decide) ?_
  refine ag_iconst d_Md_decide_11 ?_
  refine ag_istore d_Md_decide_12 (by decide) ?_
  exact ag_dr (ag_d1 rfl (ag_d1 rfl (ag_d1 rfl (ag_d1 rfl (ag_d1 rfl ag_d0))))) (w_Md_decide_14 hb hH N _ _ _ _ _ _ hyp)
theorem w_Md_decide {l : Launch} {G : ag_G} {d N : Nat} {h : ag_H} {a : Nat} (hb : md_ok h a) (hH : 4 ≤ d) {S : MS} {res : Int32 × MS} (hyp : fn_Md_decide N S = some res) : ag_Met gc_P l G m_Md_decide d [.ref a] (md_up h a S) (fun v h' => v = some (.int res.1) ∧ h' = md_up h a res.2) := by
  obtain ⟨d, rfl, hG⟩ := md_dd hH
  exact ag_met (by decide) rfl (Nat.le_of_ble_eq_true rfl) (ag_dr (ag_d1 rfl ag_d0) (w_Md_decide_0 hb hG hyp))
def fn_Md_authorize_108 (N : Nat) (S : MS) : Option (Int32 × MS) := some ((S.1 35), S)
def fn_Md_authorize_28 (N : Nat) (x1 : Int32) (x2 : Int32) (s1 : Int32) (S : MS) : Option (Int32 × MS) := if ((va_up S.1 0 (s1), S.2).1 0) ≤ (0) then ((fn_Md_right N (x1) (x2) (va_up (va_up (va_up (va_up S.1 0 (s1), S.2).1 36 (Int32.ofInt 0), (va_up S.1 0 (s1), S.2).2).1 32 (Int32.ofInt 0), (va_up (va_up S.1 0 (s1), S.2).1 36 (Int32.ofInt 0), (va_up S.1 0 (s1), S.2).2).2).1 37 (Int32.ofInt 0), (va_up (va_up (va_up S.1 0 (s1), S.2).1 36 (Int32.ofInt 0), (va_up S.1 0 (s1), S.2).2).1 32 (Int32.ofInt 0), (va_up (va_up S.1 0 (s1), S.2).1 36 (Int32.ofInt 0), (va_up S.1 0 (s1), S.2).2).2).2)).bind fun r1 => if (r1.1) = (0) then (some (((va_up r1.2.1 35 (Int32.ofInt (-1)), r1.2.2).1 35), (va_up r1.2.1 35 (Int32.ofInt (-1)), r1.2.2))) else ((fn_Md_loadAll N (x1) r1.2).bind fun r2 => (fn_Md_made N r2.2).bind fun r3 => if (r3.1) = (0) then (fn_Md_authorize_108 N  (va_up (va_up r3.2.1 35 ((Int8.ofInt (-2)).toInt32), r3.2.2).1 32 (Int32.ofInt 0), (va_up r3.2.1 35 ((Int8.ofInt (-2)).toInt32), r3.2.2).2)) else ((fn_Md_decide N r3.2).bind fun r4 => fn_Md_authorize_108 N  (va_up r4.2.1 35 (r4.1), r4.2.2)))) else (some ((Int32.ofInt 0), (va_up S.1 0 (s1), S.2)))
def fn_Md_authorize_23 (N : Nat) (x1 : Int32) (x2 : Int32) (S : MS) : Option (Int32 × MS) := fn_Md_authorize_28 N (x1) (x2) (Int32.ofInt 2) S
def fn_Md_authorize_0 (N : Nat) (x1 : Int32) (x2 : Int32) (S : MS) : Option (Int32 × MS) := (fn_Md_isToken N (x1) S).bind fun r1 => if (r1.1) = (0) then (fn_Md_authorize_28 N (x1) (x2) (Int32.ofInt 1) r1.2) else (if (x2) < (Int32.ofInt 1) then (fn_Md_authorize_23 N (x1) (x2) r1.2) else (if (x2) ≤ (Int32.ofInt 3) then (fn_Md_authorize_28 N (x1) (x2) (Int32.ofInt 0) r1.2) else (fn_Md_authorize_23 N (x1) (x2) r1.2)))
def fn_Md_authorize (N : Nat) (p1 : Int32) (p2 : Int32) (S : MS) : Option (Int32 × MS) := fn_Md_authorize_0 N p1 p2 S
theorem w_Md_authorize_108 {l : Launch} {G : ag_G} {d N : Nat} {h : ag_H} {a : Nat} (hb : md_ok h a) (hH : 7 ≤ d) {S : MS} {res : Int32 × MS} (hyp : fn_Md_authorize_108 N S = some res) : ag_ev gc_P l G m_Md_authorize (d + 1) (ag_ret gc_P G (fun v h' => v = some (.int res.1) ∧ h' = md_up h a res.2)) 108 [(0, .ref a)] [] (md_up h a S) := by
  unfold fn_Md_authorize_108 at hyp
  refine ag_aload_n d_Md_authorize_108 rfl ?_
  refine md_get hb d_Md_authorize_109 fr_Md_271 rfl ?_
  cases hyp
  exact ag_iret d_Md_authorize_112 rfl rfl ⟨rfl, rfl⟩
theorem w_Md_authorize_28 {l : Launch} {G : ag_G} {d N : Nat} {h : ag_H} {a : Nat} (hb : md_ok h a) (hH : 7 ≤ d) {x1 : Int32} {x2 : Int32} {s1 : Int32} {S : MS} {res : Int32 × MS} (hyp : fn_Md_authorize_28 N x1 x2 s1 S = some res) : ag_ev gc_P l G m_Md_authorize (d + 1) (ag_ret gc_P G (fun v h' => v = some (.int res.1) ∧ h' = md_up h a res.2)) 28 [(0, .ref a), (1, .int (x1)), (2, .int (x2))] [.int (s1), .ref a] (md_up h a S) := by
  unfold fn_Md_authorize_28 at hyp
  refine md_puti hb d_Md_authorize_28 fl_Md_84 rfl (by decide) rfl rfl ?_
  refine ag_aload_n d_Md_authorize_31 rfl ?_
  refine md_get hb d_Md_authorize_32 fr_Md_84 rfl ?_
  refine ag_if_le d_Md_authorize_35 rfl (fun q => ?_) (fun q => ?_)
  · replace hyp := md_ifp q hyp
    refine ag_aload_n d_Md_authorize_40 rfl ?_
    refine ag_iconst d_Md_authorize_41 ?_
    refine md_puti hb d_Md_authorize_42 fl_Md_258 rfl (by decide) rfl rfl ?_
    refine ag_aload_n d_Md_authorize_45 rfl ?_
    refine ag_iconst d_Md_authorize_46 ?_
    refine md_puti hb d_Md_authorize_47 fl_Md_202 rfl (by decide) rfl rfl ?_
    refine ag_aload_n d_Md_authorize_50 rfl ?_
    refine ag_iconst d_Md_authorize_51 ?_
    refine md_puti hb d_Md_authorize_52 fl_Md_264 rfl (by decide) rfl rfl ?_
    refine ag_aload_n d_Md_authorize_55 rfl ?_
    refine ag_iload_n d_Md_authorize_56 rfl ?_
    refine ag_iload_n d_Md_authorize_57 rfl ?_
    obtain ⟨r1, e1, hyp⟩ := md_bd hyp
    refine ag_callv (as := [.int (x1), .int (x2)]) d_Md_authorize_58 ml_Md_267 gw_1222 rfl sl_Md_right (md_at0 hb _) (Nat.le_of_ble_eq_true rfl) (w_Md_right hb (d := d) (by omega) e1) (fun v1 h1 q1 => ?_)
    obtain ⟨rfl, rfl⟩ := q1
    refine ag_if_ne d_Md_authorize_61 rfl (fun q => ?_) (fun q => ?_)
    · replace hyp := md_ifn q hyp
      refine ag_aload_n d_Md_authorize_74 rfl ?_
      refine ag_iload_n d_Md_authorize_75 rfl ?_
      obtain ⟨r2, e2, hyp⟩ := md_bd hyp
      refine ag_callv (as := [.int (x1)]) d_Md_authorize_76 ml_Md_274 gw_1226 rfl sl_Md_loadAll (md_at0 hb _) (Nat.le_of_ble_eq_true rfl) (w_Md_loadAll hb (d := d) (by omega) e2) (fun v2 h2 q2 => ?_)
      obtain ⟨rfl, rfl⟩ := q2
      refine ag_aload_n d_Md_authorize_79 rfl ?_
      obtain ⟨r3, e3, hyp⟩ := md_bd hyp
      refine ag_callv (as := []) d_Md_authorize_80 ml_Md_277 gw_1242 rfl sl_Md_made (md_at0 hb _) (Nat.le_of_ble_eq_true rfl) (w_Md_made hb (d := d) (by omega) e3) (fun v3 h3 q3 => ?_)
      obtain ⟨rfl, rfl⟩ := q3
      refine ag_if_eq d_Md_authorize_83 rfl (fun q => ?_) (fun q => ?_)
      · replace hyp := md_ifp q hyp
        refine ag_aload_n d_Md_authorize_97 rfl ?_
        refine ag_bipush d_Md_authorize_98 ?_
        refine md_puti hb d_Md_authorize_100 fl_Md_271 rfl (by decide) rfl rfl ?_
        refine ag_aload_n d_Md_authorize_103 rfl ?_
        refine ag_iconst d_Md_authorize_104 ?_
        refine md_puti hb d_Md_authorize_105 fl_Md_202 rfl (by decide) rfl rfl ?_
        exact ag_dr (ag_d1 rfl ag_d0) (w_Md_authorize_108 hb hH hyp)
      · replace hyp := md_ifn q hyp
        refine ag_aload_n d_Md_authorize_86 rfl ?_
        refine ag_aload_n d_Md_authorize_87 rfl ?_
        obtain ⟨r4, e4, hyp⟩ := md_bd hyp
        refine ag_callv (as := []) d_Md_authorize_88 ml_Md_280 gw_1275 rfl sl_Md_decide (md_at0 hb _) (Nat.le_of_ble_eq_true rfl) (w_Md_decide hb (d := d) (by omega) e4) (fun v4 h4 q4 => ?_)
        obtain ⟨rfl, rfl⟩ := q4
        refine md_puti hb d_Md_authorize_91 fl_Md_271 rfl (by decide) rfl rfl ?_
        refine ag_goto d_Md_authorize_94 rfl ?_
        exact ag_dr (ag_d1 rfl ag_d0) (w_Md_authorize_108 hb hH hyp)
    · replace hyp := md_ifp q hyp
      refine ag_aload_n d_Md_authorize_64 rfl ?_
      refine ag_iconst d_Md_authorize_65 ?_
      refine md_puti hb d_Md_authorize_66 fl_Md_271 rfl (by decide) rfl rfl ?_
      refine ag_aload_n d_Md_authorize_69 rfl ?_
      refine md_get hb d_Md_authorize_70 fr_Md_271 rfl ?_
      cases hyp
      exact ag_iret d_Md_authorize_73 rfl rfl ⟨rfl, rfl⟩
  · replace hyp := md_ifn q hyp
    refine ag_iconst d_Md_authorize_38 ?_
    cases hyp
    exact ag_iret d_Md_authorize_39 rfl rfl ⟨rfl, rfl⟩
theorem w_Md_authorize_23 {l : Launch} {G : ag_G} {d N : Nat} {h : ag_H} {a : Nat} (hb : md_ok h a) (hH : 7 ≤ d) {x1 : Int32} {x2 : Int32} {S : MS} {res : Int32 × MS} (hyp : fn_Md_authorize_23 N x1 x2 S = some res) : ag_ev gc_P l G m_Md_authorize (d + 1) (ag_ret gc_P G (fun v h' => v = some (.int res.1) ∧ h' = md_up h a res.2)) 23 [(0, .ref a), (1, .int (x1)), (2, .int (x2))] [.ref a] (md_up h a S) := by
  unfold fn_Md_authorize_23 at hyp
  refine ag_iconst d_Md_authorize_23 ?_
  refine ag_goto d_Md_authorize_24 rfl ?_
  exact ag_dr (ag_d1 rfl (ag_d1 rfl (ag_d1 rfl ag_d0))) (w_Md_authorize_28 hb hH hyp)
theorem w_Md_authorize_0 {l : Launch} {G : ag_G} {d N : Nat} {h : ag_H} {a : Nat} (hb : md_ok h a) (hH : 7 ≤ d) {x1 : Int32} {x2 : Int32} {S : MS} {res : Int32 × MS} (hyp : fn_Md_authorize_0 N x1 x2 S = some res) : ag_ev gc_P l G m_Md_authorize (d + 1) (ag_ret gc_P G (fun v h' => v = some (.int res.1) ∧ h' = md_up h a res.2)) 0 [(0, .ref a), (1, .int (x1)), (2, .int (x2))] [] (md_up h a S) := by
  unfold fn_Md_authorize_0 at hyp
  refine ag_aload_n d_Md_authorize_0 rfl ?_
  refine ag_aload_n d_Md_authorize_1 rfl ?_
  refine ag_iload_n d_Md_authorize_2 rfl ?_
  obtain ⟨r1, e1, hyp⟩ := md_bd hyp
  refine ag_callv (as := [.int (x1)]) d_Md_authorize_3 ml_Md_188 gw_1190 rfl sl_Md_isToken (md_at0 hb _) (Nat.le_of_ble_eq_true rfl) (w_Md_isToken hb (d := d) (by omega) e1) (fun v1 h1 q1 => ?_)
  obtain ⟨rfl, rfl⟩ := q1
  refine ag_if_ne d_Md_authorize_6 rfl (fun q => ?_) (fun q => ?_)
  · replace hyp := md_ifn q hyp
    refine ag_iload_n d_Md_authorize_13 rfl ?_
    refine ag_iconst d_Md_authorize_14 ?_
    refine ag_icmp_lt d_Md_authorize_15 rfl (fun q => ?_) (fun q => ?_)
    · replace hyp := md_ifp q hyp
      exact ag_dr (ag_d1 rfl (ag_d1 rfl (ag_d1 rfl ag_d0))) (w_Md_authorize_23 hb hH hyp)
    · replace hyp := md_ifn q hyp
      refine ag_iload_n d_Md_authorize_18 rfl ?_
      refine ag_iconst d_Md_authorize_19 ?_
      refine ag_icmp_le d_Md_authorize_20 rfl (fun q => ?_) (fun q => ?_)
      · replace hyp := md_ifp q hyp
        refine ag_iconst d_Md_authorize_27 ?_
        exact ag_dr (ag_d1 rfl (ag_d1 rfl (ag_d1 rfl ag_d0))) (w_Md_authorize_28 hb hH hyp)
      · replace hyp := md_ifn q hyp
        exact ag_dr (ag_d1 rfl (ag_d1 rfl (ag_d1 rfl ag_d0))) (w_Md_authorize_23 hb hH hyp)
  · replace hyp := md_ifp q hyp
    refine ag_iconst d_Md_authorize_9 ?_
    refine ag_goto d_Md_authorize_10 rfl ?_
    exact ag_dr (ag_d1 rfl (ag_d1 rfl (ag_d1 rfl ag_d0))) (w_Md_authorize_28 hb hH hyp)
theorem w_Md_authorize {l : Launch} {G : ag_G} {d N : Nat} {h : ag_H} {a : Nat} (hb : md_ok h a) (hH : 8 ≤ d) {p1 : Int32} {p2 : Int32} {S : MS} {res : Int32 × MS} (hyp : fn_Md_authorize N p1 p2 S = some res) : ag_Met gc_P l G m_Md_authorize d [.ref a, .int (p1), .int (p2)] (md_up h a S) (fun v h' => v = some (.int res.1) ∧ h' = md_up h a res.2) := by
  obtain ⟨d, rfl, hG⟩ := md_dd hH
  exact ag_met (by decide) rfl (Nat.le_of_ble_eq_true rfl) (ag_dr (ag_d1 rfl (ag_d1 rfl (ag_d1 rfl ag_d0))) (w_Md_authorize_0 hb hG hyp))
def fn_Md_latest_53 (N : Nat) (s0 : Int32) (S : MS) : Option (Int32 × MS) := some ((s0), S)
def fn_Md_latest_0 (N : Nat) (x1 : Int32) (S : MS) : Option (Int32 × MS) := if (x1) = (0) then (fn_Md_latest_53 N ((va_up S.1 0 (Int32.ofInt 0), S.2).1 35) (va_up S.1 0 (Int32.ofInt 0), S.2)) else (if (x1) = (Int32.ofInt 1) then (fn_Md_latest_53 N ((va_up S.1 0 (Int32.ofInt 0), S.2).1 32) (va_up S.1 0 (Int32.ofInt 0), S.2)) else (if (x1) = (Int32.ofInt 2) then (fn_Md_latest_53 N ((va_up S.1 0 (Int32.ofInt 0), S.2).1 36) (va_up S.1 0 (Int32.ofInt 0), S.2)) else (if (x1) = (Int32.ofInt 3) then (fn_Md_latest_53 N ((va_up S.1 0 (Int32.ofInt 0), S.2).1 37) (va_up S.1 0 (Int32.ofInt 0), S.2)) else (fn_Md_latest_53 N (Int32.ofInt 0) (va_up S.1 0 (Int32.ofInt 0), S.2)))))
def fn_Md_latest (N : Nat) (p1 : Int32) (S : MS) : Option (Int32 × MS) := fn_Md_latest_0 N p1 S
theorem w_Md_latest_53 {l : Launch} {G : ag_G} {d N : Nat} {h : ag_H} {a : Nat} (hb : md_ok h a) {s0 : Int32} {S : MS} {res : Int32 × MS} (hyp : fn_Md_latest_53 N s0 S = some res) : ag_ev gc_P l G m_Md_latest (d) (ag_ret gc_P G (fun v h' => v = some (.int res.1) ∧ h' = md_up h a res.2)) 53 [(0, .ref a)] [.int (s0)] (md_up h a S) := by
  unfold fn_Md_latest_53 at hyp
  cases hyp
  exact ag_iret d_Md_latest_53 rfl rfl ⟨rfl, rfl⟩
theorem w_Md_latest_0 {l : Launch} {G : ag_G} {d N : Nat} {h : ag_H} {a : Nat} (hb : md_ok h a) {x1 : Int32} {S : MS} {res : Int32 × MS} (hyp : fn_Md_latest_0 N x1 S = some res) : ag_ev gc_P l G m_Md_latest (d) (ag_ret gc_P G (fun v h' => v = some (.int res.1) ∧ h' = md_up h a res.2)) 0 [(0, .ref a), (1, .int (x1))] [] (md_up h a S) := by
  unfold fn_Md_latest_0 at hyp
  refine ag_aload_n d_Md_latest_0 rfl ?_
  refine ag_iconst d_Md_latest_1 ?_
  refine md_puti hb d_Md_latest_2 fl_Md_84 rfl (by decide) rfl rfl ?_
  refine ag_iload_n d_Md_latest_5 rfl ?_
  refine ag_if_ne d_Md_latest_6 rfl (fun q => ?_) (fun q => ?_)
  · replace hyp := md_ifn q hyp
    refine ag_iload_n d_Md_latest_16 rfl ?_
    refine ag_iconst d_Md_latest_17 ?_
    refine ag_icmp_ne d_Md_latest_18 rfl (fun q => ?_) (fun q => ?_)
    · replace hyp := md_ifn q hyp
      refine ag_iload_n d_Md_latest_28 rfl ?_
      refine ag_iconst d_Md_latest_29 ?_
      refine ag_icmp_ne d_Md_latest_30 rfl (fun q => ?_) (fun q => ?_)
      · replace hyp := md_ifn q hyp
        refine ag_iload_n d_Md_latest_40 rfl ?_
        refine ag_iconst d_Md_latest_41 ?_
        refine ag_icmp_ne d_Md_latest_42 rfl (fun q => ?_) (fun q => ?_)
        · replace hyp := md_ifn q hyp
          refine ag_iconst d_Md_latest_52 ?_
          exact ag_dr (ag_d1 rfl ag_d0) (w_Md_latest_53 hb hyp)
        · replace hyp := md_ifp q hyp
          refine ag_aload_n d_Md_latest_45 rfl ?_
          refine md_get hb d_Md_latest_46 fr_Md_264 rfl ?_
          refine ag_goto d_Md_latest_49 rfl ?_
          exact ag_dr (ag_d1 rfl ag_d0) (w_Md_latest_53 hb hyp)
      · replace hyp := md_ifp q hyp
        refine ag_aload_n d_Md_latest_33 rfl ?_
        refine md_get hb d_Md_latest_34 fr_Md_258 rfl ?_
        refine ag_goto d_Md_latest_37 rfl ?_
        exact ag_dr (ag_d1 rfl ag_d0) (w_Md_latest_53 hb hyp)
    · replace hyp := md_ifp q hyp
      refine ag_aload_n d_Md_latest_21 rfl ?_
      refine md_get hb d_Md_latest_22 fr_Md_202 rfl ?_
      refine ag_goto d_Md_latest_25 rfl ?_
      exact ag_dr (ag_d1 rfl ag_d0) (w_Md_latest_53 hb hyp)
  · replace hyp := md_ifp q hyp
    refine ag_aload_n d_Md_latest_9 rfl ?_
    refine md_get hb d_Md_latest_10 fr_Md_271 rfl ?_
    refine ag_goto d_Md_latest_13 rfl ?_
    exact ag_dr (ag_d1 rfl ag_d0) (w_Md_latest_53 hb hyp)
theorem w_Md_latest {l : Launch} {G : ag_G} {d N : Nat} {h : ag_H} {a : Nat} (hb : md_ok h a) (hH : 0 ≤ d) {p1 : Int32} {S : MS} {res : Int32 × MS} (hyp : fn_Md_latest N p1 S = some res) : ag_Met gc_P l G m_Md_latest d [.ref a, .int (p1)] (md_up h a S) (fun v h' => v = some (.int res.1) ∧ h' = md_up h a res.2) := by
  exact ag_met (by decide) rfl (Nat.le_of_ble_eq_true rfl) (ag_dr (ag_d1 rfl (ag_d1 rfl ag_d0)) (w_Md_latest_0 hb hyp))
def fn_Md_before_58 (N : Nat) (s0 : Int32) (S : MS) : Option (Int32 × MS) := if md_01 (s0) = true then (some ((s0), S)) else none
def fn_Md_before_2 (N : Nat) : Nat → Int32 → Int32 → Int32 → MS → Option (Int32 × MS)
  | 0, _, _, _, _ => none
  | n + 1, x1, x2, x3, S => if (Int32.ofInt 5) ≤ (x3) then (if md_01 (Int32.ofInt 0) = true then (some ((Int32.ofInt 0), S)) else none) else (if md_in (((Int32.ofInt 5) * (x1)) + (x3)) (md_len 17) = true then (if md_in (((Int32.ofInt 5) * (x2)) + (x3)) (md_len 17) = true then (if (S.2 17 (((Int32.ofInt 5) * (x1)) + (x3)).toNatClampNeg) = (S.2 17 (((Int32.ofInt 5) * (x2)) + (x3)).toNatClampNeg) then (fn_Md_before_2 N n (x1) (x2) ((x3) + Int32.ofInt (1)) S) else (if md_in (((Int32.ofInt 5) * (x1)) + (x3)) (md_len 17) = true then (if md_in (((Int32.ofInt 5) * (x2)) + (x3)) (md_len 17) = true then (if (S.2 17 (((Int32.ofInt 5) * (x2)) + (x3)).toNatClampNeg) ≤ (S.2 17 (((Int32.ofInt 5) * (x1)) + (x3)).toNatClampNeg) then (fn_Md_before_58 N (Int32.ofInt 0) S) else (fn_Md_before_58 N (Int32.ofInt 1) S)) else none) else none)) else none) else none)
theorem fe_Md_before_2 (N : Nat) (n : Nat) (x1 : Int32) (x2 : Int32) (x3 : Int32) (S : MS) : fn_Md_before_2 N (n + 1) x1 x2 x3 S = (if (Int32.ofInt 5) ≤ (x3) then (if md_01 (Int32.ofInt 0) = true then (some ((Int32.ofInt 0), S)) else none) else (if md_in (((Int32.ofInt 5) * (x1)) + (x3)) (md_len 17) = true then (if md_in (((Int32.ofInt 5) * (x2)) + (x3)) (md_len 17) = true then (if (S.2 17 (((Int32.ofInt 5) * (x1)) + (x3)).toNatClampNeg) = (S.2 17 (((Int32.ofInt 5) * (x2)) + (x3)).toNatClampNeg) then (fn_Md_before_2 N n (x1) (x2) ((x3) + Int32.ofInt (1)) S) else (if md_in (((Int32.ofInt 5) * (x1)) + (x3)) (md_len 17) = true then (if md_in (((Int32.ofInt 5) * (x2)) + (x3)) (md_len 17) = true then (if (S.2 17 (((Int32.ofInt 5) * (x2)) + (x3)).toNatClampNeg) ≤ (S.2 17 (((Int32.ofInt 5) * (x1)) + (x3)).toNatClampNeg) then (fn_Md_before_58 N (Int32.ofInt 0) S) else (fn_Md_before_58 N (Int32.ofInt 1) S)) else none) else none)) else none) else none)) := rfl
def fn_Md_before_0 (N : Nat) (x1 : Int32) (x2 : Int32) (S : MS) : Option (Int32 × MS) := fn_Md_before_2 N N (x1) (x2) (Int32.ofInt 0) S
def fn_Md_before (N : Nat) (p1 : Int32) (p2 : Int32) (S : MS) : Option (Int32 × MS) := fn_Md_before_0 N p1 p2 S
theorem w_Md_before_58 {l : Launch} {G : ag_G} {d N : Nat} {h : ag_H} {a : Nat} (hb : md_ok h a) {s0 : Int32} {S : MS} {res : Int32 × MS} (hyp : fn_Md_before_58 N s0 S = some res) : ag_ev gc_P l G m_Md_before (d) (ag_ret gc_P G (fun v h' => v = some (.int res.1) ∧ h' = md_up h a res.2)) 58 [(0, .ref a)] [.int (s0)] (md_up h a S) := by
  unfold fn_Md_before_58 at hyp
  obtain ⟨qz, hyp⟩ := md_ifs hyp
  cases hyp
  exact ag_iret d_Md_before_58 rfl (md_01n qz) ⟨rfl, rfl⟩
theorem w_Md_before_2 {l : Launch} {G : ag_G} {d N : Nat} {h : ag_H} {a : Nat} (hb : md_ok h a) : ∀ (n : Nat) (res : Int32 × MS) (x1 : Int32) (x2 : Int32) (x3 : Int32) (S : MS) , fn_Md_before_2 N n x1 x2 x3 S = some res → ag_ev gc_P l G m_Md_before (d) (ag_ret gc_P G (fun v h' => v = some (.int res.1) ∧ h' = md_up h a res.2)) 2 [(0, .ref a), (1, .int (x1)), (2, .int (x2)), (3, .int (x3))] [] (md_up h a S) := by
  intro n
  induction n with
  | zero =>
    intro res x1 x2 x3 S hyp
    cases hyp
  | succ n ih =>
    intro res x1 x2 x3 S hyp
    rw [fe_Md_before_2] at hyp
    refine ag_iload_n d_Md_before_2 rfl ?_
    refine ag_iconst d_Md_before_3 ?_
    refine ag_icmp_ge d_Md_before_4 rfl (fun q => ?_) (fun q => ?_)
    · replace hyp := md_ifp q hyp
      refine ag_iconst d_Md_before_65 ?_
      obtain ⟨qz, hyp⟩ := md_ifs hyp
      cases hyp
      exact ag_iret d_Md_before_66 rfl (md_01n qz) ⟨rfl, rfl⟩
    · replace hyp := md_ifn q hyp
      refine ag_aload_n d_Md_before_7 rfl ?_
      refine md_get hb d_Md_before_8 fr_Md_69 rfl ?_
      refine ag_iconst d_Md_before_11 ?_
      refine ag_iload_n d_Md_before_12 rfl ?_
      refine ag_imul d_Md_before_13 ?_
      refine ag_iload_n d_Md_before_14 rfl ?_
      refine ag_iadd d_Md_before_15 ?_
      obtain ⟨qi, hyp⟩ := md_ifs hyp
      refine md_ald hb d_Md_before_16 (by decide) (by decide) rfl qi ?_
      refine ag_aload_n d_Md_before_17 rfl ?_
      refine md_get hb d_Md_before_18 fr_Md_69 rfl ?_
      refine ag_iconst d_Md_before_21 ?_
      refine ag_iload_n d_Md_before_22 rfl ?_
      refine ag_imul d_Md_before_23 ?_
      refine ag_iload_n d_Md_before_24 rfl ?_
      refine ag_iadd d_Md_before_25 ?_
      obtain ⟨qi, hyp⟩ := md_ifs hyp
      refine md_ald hb d_Md_before_26 (by decide) (by decide) rfl qi ?_
      refine ag_icmp_eq d_Md_before_27 rfl (fun q => ?_) (fun q => ?_)
      · replace hyp := md_ifp q hyp
        refine ag_iinc d_Md_before_59 rfl (by decide) ?_
        refine ag_goto d_Md_before_62 rfl ?_
        exact ag_dr (ag_d1 rfl (ag_d1 rfl (ag_d1 rfl (ag_d1 rfl ag_d0)))) (ih _ _ _ _ _ hyp)
      · replace hyp := md_ifn q hyp
        refine ag_aload_n d_Md_before_30 rfl ?_
        refine md_get hb d_Md_before_31 fr_Md_69 rfl ?_
        refine ag_iconst d_Md_before_34 ?_
        refine ag_iload_n d_Md_before_35 rfl ?_
        refine ag_imul d_Md_before_36 ?_
        refine ag_iload_n d_Md_before_37 rfl ?_
        refine ag_iadd d_Md_before_38 ?_
        obtain ⟨qi, hyp⟩ := md_ifs hyp
        refine md_ald hb d_Md_before_39 (by decide) (by decide) rfl qi ?_
        refine ag_aload_n d_Md_before_40 rfl ?_
        refine md_get hb d_Md_before_41 fr_Md_69 rfl ?_
        refine ag_iconst d_Md_before_44 ?_
        refine ag_iload_n d_Md_before_45 rfl ?_
        refine ag_imul d_Md_before_46 ?_
        refine ag_iload_n d_Md_before_47 rfl ?_
        refine ag_iadd d_Md_before_48 ?_
        obtain ⟨qi, hyp⟩ := md_ifs hyp
        refine md_ald hb d_Md_before_49 (by decide) (by decide) rfl qi ?_
        refine ag_icmp_ge d_Md_before_50 rfl (fun q => ?_) (fun q => ?_)
        · replace hyp := md_ifp q hyp
          refine ag_iconst d_Md_before_57 ?_
          exact ag_dr (ag_d1 rfl ag_d0) (w_Md_before_58 hb hyp)
        · replace hyp := md_ifn q hyp
          refine ag_iconst d_Md_before_53 ?_
          refine ag_goto d_Md_before_54 rfl ?_
          exact ag_dr (ag_d1 rfl ag_d0) (w_Md_before_58 hb hyp)
theorem w_Md_before_0 {l : Launch} {G : ag_G} {d N : Nat} {h : ag_H} {a : Nat} (hb : md_ok h a) {x1 : Int32} {x2 : Int32} {S : MS} {res : Int32 × MS} (hyp : fn_Md_before_0 N x1 x2 S = some res) : ag_ev gc_P l G m_Md_before (d) (ag_ret gc_P G (fun v h' => v = some (.int res.1) ∧ h' = md_up h a res.2)) 0 [(0, .ref a), (1, .int (x1)), (2, .int (x2))] [] (md_up h a S) := by
  unfold fn_Md_before_0 at hyp
  refine ag_iconst d_Md_before_0 ?_
  refine ag_istore_n d_Md_before_1 (by decide) ?_
  exact ag_dr (ag_d1 rfl (ag_d1 rfl (ag_d1 rfl (ag_d1 rfl ag_d0)))) (w_Md_before_2 hb N _ _ _ _ _ hyp)
theorem w_Md_before {l : Launch} {G : ag_G} {d N : Nat} {h : ag_H} {a : Nat} (hb : md_ok h a) (hH : 0 ≤ d) {p1 : Int32} {p2 : Int32} {S : MS} {res : Int32 × MS} (hyp : fn_Md_before N p1 p2 S = some res) : ag_Met gc_P l G m_Md_before d [.ref a, .int (p1), .int (p2)] (md_up h a S) (fun v h' => v = some (.int res.1) ∧ h' = md_up h a res.2) := by
  exact ag_met (by decide) rfl (Nat.le_of_ble_eq_true rfl) (ag_dr (ag_d1 rfl (ag_d1 rfl (ag_d1 rfl ag_d0))) (w_Md_before_0 hb hyp))
