/-! Md_thrown, Md_type, Md_wipe, Md_here, Md_next, Md_peek, Md_digit, Md_number, Md_term, Md_readAtom, Md_push, Md_emit -/
def fn_Md_thrown_0 (N : Nat) (S : MS) : Option (Int32 × MS) := some ((S.1 0), S)
def fn_Md_thrown (N : Nat) (S : MS) : Option (Int32 × MS) := fn_Md_thrown_0 N S
theorem w_Md_thrown_0 {l : Launch} {G : ag_G} {d N : Nat} {h : ag_H} {a : Nat} (hb : md_ok h a) {S : MS} {res : Int32 × MS} (hyp : fn_Md_thrown_0 N S = some res) : ag_ev gc_P l G m_Md_thrown (d) (ag_ret gc_P G (fun v h' => v = some (.int res.1) ∧ h' = md_up h a res.2)) 0 [(0, .ref a)] [] (md_up h a S) := by
  unfold fn_Md_thrown_0 at hyp
  refine ag_aload_n d_Md_thrown_0 rfl ?_
  refine md_get hb d_Md_thrown_1 fr_Md_84 rfl ?_
  cases hyp
  exact ag_iret d_Md_thrown_4 rfl rfl ⟨rfl, rfl⟩
theorem w_Md_thrown {l : Launch} {G : ag_G} {d N : Nat} {h : ag_H} {a : Nat} (hb : md_ok h a) (hH : 0 ≤ d) {S : MS} {res : Int32 × MS} (hyp : fn_Md_thrown N S = some res) : ag_Met gc_P l G m_Md_thrown d [.ref a] (md_up h a S) (fun v h' => v = some (.int res.1) ∧ h' = md_up h a res.2) := by
  exact ag_met (by decide) rfl (Nat.le_of_ble_eq_true rfl) (ag_dr (ag_d1 rfl ag_d0) (w_Md_thrown_0 hb hyp))
def fn_Md_type_29 (N : Nat) (S : MS) : Option (Int32 × MS) := if md_01 (Int32.ofInt 0) = true then (some ((Int32.ofInt 0), S)) else none
def fn_Md_type_0 (N : Nat) (x1 : Int32) (S : MS) : Option (Int32 × MS) := if (x1) < ((Int8.ofInt (32)).toInt32) then (fn_Md_type_29 N  (va_up S.1 0 (Int32.ofInt 0), S.2)) else (if ((Int8.ofInt (126)).toInt32) < (x1) then (fn_Md_type_29 N  (va_up S.1 0 (Int32.ofInt 0), S.2)) else (if md_in ((Int8.ofInt (95)).toInt32) (md_len 2) = true then (if ((va_up S.1 0 (Int32.ofInt 0), S.2).2 2 ((Int8.ofInt (95)).toInt32).toNatClampNeg) < ((Int8.ofInt (40)).toInt32) then (if md_in ((Int8.ofInt (95)).toInt32) (md_len 2) = true then (if md_in (((Int16.ofInt (3800)).toInt32) + ((va_up S.1 0 (Int32.ofInt 0), S.2).2 2 ((Int8.ofInt (95)).toInt32).toNatClampNeg)) (md_len 1) = true then (if md_in ((Int8.ofInt (95)).toInt32) (md_len 2) = true then (if md_in ((Int8.ofInt (95)).toInt32) (md_len 2) = true then (if md_01 (Int32.ofInt 1) = true then (some ((Int32.ofInt 1), (((va_up S.1 0 (Int32.ofInt 0), S.2).1, va_up (va_up S.1 0 (Int32.ofInt 0), S.2).2 1 (upd ((va_up S.1 0 (Int32.ofInt 0), S.2).2 1) (((Int16.ofInt (3800)).toInt32) + ((va_up S.1 0 (Int32.ofInt 0), S.2).2 2 ((Int8.ofInt (95)).toInt32).toNatClampNeg)).toNatClampNeg (x1))).1, va_up ((va_up S.1 0 (Int32.ofInt 0), S.2).1, va_up (va_up S.1 0 (Int32.ofInt 0), S.2).2 1 (upd ((va_up S.1 0 (Int32.ofInt 0), S.2).2 1) (((Int16.ofInt (3800)).toInt32) + ((va_up S.1 0 (Int32.ofInt 0), S.2).2 2 ((Int8.ofInt (95)).toInt32).toNatClampNeg)).toNatClampNeg (x1))).2 2 (upd (((va_up S.1 0 (Int32.ofInt 0), S.2).1, va_up (va_up S.1 0 (Int32.ofInt 0), S.2).2 1 (upd ((va_up S.1 0 (Int32.ofInt 0), S.2).2 1) (((Int16.ofInt (3800)).toInt32) + ((va_up S.1 0 (Int32.ofInt 0), S.2).2 2 ((Int8.ofInt (95)).toInt32).toNatClampNeg)).toNatClampNeg (x1))).2 2) ((Int8.ofInt (95)).toInt32).toNatClampNeg ((((va_up S.1 0 (Int32.ofInt 0), S.2).1, va_up (va_up S.1 0 (Int32.ofInt 0), S.2).2 1 (upd ((va_up S.1 0 (Int32.ofInt 0), S.2).2 1) (((Int16.ofInt (3800)).toInt32) + ((va_up S.1 0 (Int32.ofInt 0), S.2).2 2 ((Int8.ofInt (95)).toInt32).toNatClampNeg)).toNatClampNeg (x1))).2 2 ((Int8.ofInt (95)).toInt32).toNatClampNeg) + (Int32.ofInt 1)))))) else none) else none) else none) else none) else none) else (fn_Md_type_29 N  (va_up S.1 0 (Int32.ofInt 0), S.2))) else none))
def fn_Md_type (N : Nat) (p1 : Int32) (S : MS) : Option (Int32 × MS) := fn_Md_type_0 N p1 S
theorem w_Md_type_29 {l : Launch} {G : ag_G} {d N : Nat} {h : ag_H} {a : Nat} (hb : md_ok h a) {S : MS} {res : Int32 × MS} (hyp : fn_Md_type_29 N S = some res) : ag_ev gc_P l G m_Md_type (d) (ag_ret gc_P G (fun v h' => v = some (.int res.1) ∧ h' = md_up h a res.2)) 29 [(0, .ref a)] [] (md_up h a S) := by
  unfold fn_Md_type_29 at hyp
  refine ag_iconst d_Md_type_29 ?_
  obtain ⟨qz, hyp⟩ := md_ifs hyp
  cases hyp
  exact ag_iret d_Md_type_30 rfl (md_01n qz) ⟨rfl, rfl⟩
theorem w_Md_type_0 {l : Launch} {G : ag_G} {d N : Nat} {h : ag_H} {a : Nat} (hb : md_ok h a) {x1 : Int32} {S : MS} {res : Int32 × MS} (hyp : fn_Md_type_0 N x1 S = some res) : ag_ev gc_P l G m_Md_type (d) (ag_ret gc_P G (fun v h' => v = some (.int res.1) ∧ h' = md_up h a res.2)) 0 [(0, .ref a), (1, .int (x1))] [] (md_up h a S) := by
  unfold fn_Md_type_0 at hyp
  refine ag_aload_n d_Md_type_0 rfl ?_
  refine ag_iconst d_Md_type_1 ?_
  refine md_puti hb d_Md_type_2 fl_Md_84 rfl (by decide) rfl rfl ?_
  refine ag_iload_n d_Md_type_5 rfl ?_
  refine ag_bipush d_Md_type_6 ?_
  refine ag_icmp_lt d_Md_type_8 rfl (fun q => ?_) (fun q => ?_)
  · replace hyp := md_ifp q hyp
    exact ag_dr (ag_d1 rfl ag_d0) (w_Md_type_29 hb hyp)
  · replace hyp := md_ifn q hyp
    refine ag_iload_n d_Md_type_11 rfl ?_
    refine ag_bipush d_Md_type_12 ?_
    refine ag_icmp_gt d_Md_type_14 rfl (fun q => ?_) (fun q => ?_)
    · replace hyp := md_ifp q hyp
      exact ag_dr (ag_d1 rfl ag_d0) (w_Md_type_29 hb hyp)
    · replace hyp := md_ifn q hyp
      refine ag_aload_n d_Md_type_17 rfl ?_
      refine md_get hb d_Md_type_18 fr_Md_13 rfl ?_
      refine ag_bipush d_Md_type_21 ?_
      obtain ⟨qi, hyp⟩ := md_ifs hyp
      refine md_ald hb d_Md_type_23 (by decide) (by decide) rfl qi ?_
      refine ag_bipush d_Md_type_24 ?_
      refine ag_icmp_lt d_Md_type_26 rfl (fun q => ?_) (fun q => ?_)
      · replace hyp := md_ifp q hyp
        refine ag_aload_n d_Md_type_31 rfl ?_
        refine md_get hb d_Md_type_32 fr_Md_7 rfl ?_
        refine ag_sipush d_Md_type_35 ?_
        refine ag_aload_n d_Md_type_38 rfl ?_
        refine md_get hb d_Md_type_39 fr_Md_13 rfl ?_
        refine ag_bipush d_Md_type_42 ?_
        obtain ⟨qi, hyp⟩ := md_ifs hyp
        refine md_ald hb d_Md_type_44 (by decide) (by decide) rfl qi ?_
        refine ag_iadd d_Md_type_45 ?_
        refine ag_iload_n d_Md_type_46 rfl ?_
        obtain ⟨qi, hyp⟩ := md_ifs hyp
        refine md_ast hb d_Md_type_47 (by decide) (by decide) rfl qi ?_
        refine ag_aload_n d_Md_type_48 rfl ?_
        refine md_get hb d_Md_type_49 fr_Md_13 rfl ?_
        refine ag_bipush d_Md_type_52 ?_
        refine ag_dup2 d_Md_type_54 rfl rfl ?_
        obtain ⟨qi, hyp⟩ := md_ifs hyp
        refine md_ald hb d_Md_type_55 (by decide) (by decide) rfl qi ?_
        refine ag_iconst d_Md_type_56 ?_
        refine ag_iadd d_Md_type_57 ?_
        obtain ⟨qi, hyp⟩ := md_ifs hyp
        refine md_ast hb d_Md_type_58 (by decide) (by decide) rfl qi ?_
        refine ag_iconst d_Md_type_59 ?_
        obtain ⟨qz, hyp⟩ := md_ifs hyp
        cases hyp
        exact ag_iret d_Md_type_60 rfl (md_01n qz) ⟨rfl, rfl⟩
      · replace hyp := md_ifn q hyp
        exact ag_dr (ag_d1 rfl ag_d0) (w_Md_type_29 hb hyp)
theorem w_Md_type {l : Launch} {G : ag_G} {d N : Nat} {h : ag_H} {a : Nat} (hb : md_ok h a) (hH : 0 ≤ d) {p1 : Int32} {S : MS} {res : Int32 × MS} (hyp : fn_Md_type N p1 S = some res) : ag_Met gc_P l G m_Md_type d [.ref a, .int (p1)] (md_up h a S) (fun v h' => v = some (.int res.1) ∧ h' = md_up h a res.2) := by
  exact ag_met (by decide) rfl (Nat.le_of_ble_eq_true rfl) (ag_dr (ag_d1 rfl (ag_d1 rfl ag_d0)) (w_Md_type_0 hb hyp))
def fn_Md_wipe_0 (N : Nat) (S : MS) : Option (Int32 × MS) := if md_in ((Int8.ofInt (95)).toInt32) (md_len 2) = true then (some (0, ((va_up S.1 0 (Int32.ofInt 0), S.2).1, va_up (va_up S.1 0 (Int32.ofInt 0), S.2).2 2 (upd ((va_up S.1 0 (Int32.ofInt 0), S.2).2 2) ((Int8.ofInt (95)).toInt32).toNatClampNeg (Int32.ofInt 0))))) else none
def fn_Md_wipe (N : Nat) (S : MS) : Option (Int32 × MS) := fn_Md_wipe_0 N S
theorem w_Md_wipe_0 {l : Launch} {G : ag_G} {d N : Nat} {h : ag_H} {a : Nat} (hb : md_ok h a) {S : MS} {res : Int32 × MS} (hyp : fn_Md_wipe_0 N S = some res) : ag_ev gc_P l G m_Md_wipe (d) (ag_ret gc_P G (fun v h' => v = none ∧ h' = md_up h a res.2)) 0 [(0, .ref a)] [] (md_up h a S) := by
  unfold fn_Md_wipe_0 at hyp
  refine ag_aload_n d_Md_wipe_0 rfl ?_
  refine ag_iconst d_Md_wipe_1 ?_
  refine md_puti hb d_Md_wipe_2 fl_Md_84 rfl (by decide) rfl rfl ?_
  refine ag_aload_n d_Md_wipe_5 rfl ?_
  refine md_get hb d_Md_wipe_6 fr_Md_13 rfl ?_
  refine ag_bipush d_Md_wipe_9 ?_
  refine ag_iconst d_Md_wipe_11 ?_
  obtain ⟨qi, hyp⟩ := md_ifs hyp
  refine md_ast hb d_Md_wipe_12 (by decide) (by decide) rfl qi ?_
  cases hyp
  exact ag_vret d_Md_wipe_13 rfl ⟨rfl, rfl⟩
theorem w_Md_wipe {l : Launch} {G : ag_G} {d N : Nat} {h : ag_H} {a : Nat} (hb : md_ok h a) (hH : 0 ≤ d) {S : MS} {res : Int32 × MS} (hyp : fn_Md_wipe N S = some res) : ag_Met gc_P l G m_Md_wipe d [.ref a] (md_up h a S) (fun v h' => v = none ∧ h' = md_up h a res.2) := by
  exact ag_met (by decide) rfl (Nat.le_of_ble_eq_true rfl) (ag_dr (ag_d1 rfl ag_d0) (w_Md_wipe_0 hb hyp))
def fn_Md_here_72 (N : Nat) (s0 : Int32) (S : MS) : Option (Int32 × MS) := some ((s0), S)
def fn_Md_here_43 (N : Nat) (S : MS) : Option (Int32 × MS) := if (S.1 18) ≤ (S.1 16) then (fn_Md_here_72 N (Int32.ofInt 0) S) else (if md_in ((S.1 17) + (S.1 16)) (md_len 1) = true then (fn_Md_here_72 N (S.2 1 ((S.1 17) + (S.1 16)).toNatClampNeg) S) else none)
def fn_Md_here_0 (N : Nat) : Nat → MS → Option (Int32 × MS)
  | 0, _ => none
  | n + 1, S => if (S.1 18) ≤ (S.1 16) then (fn_Md_here_43 N  S) else (if md_in ((S.1 17) + (S.1 16)) (md_len 1) = true then (if (S.2 1 ((S.1 17) + (S.1 16)).toNatClampNeg) = ((Int8.ofInt (32)).toInt32) then (fn_Md_here_0 N n  (va_up S.1 16 ((S.1 16) + (Int32.ofInt 1)), S.2)) else (fn_Md_here_43 N  S)) else none)
theorem fe_Md_here_0 (N : Nat) (n : Nat) (S : MS) : fn_Md_here_0 N (n + 1) S = (if (S.1 18) ≤ (S.1 16) then (fn_Md_here_43 N  S) else (if md_in ((S.1 17) + (S.1 16)) (md_len 1) = true then (if (S.2 1 ((S.1 17) + (S.1 16)).toNatClampNeg) = ((Int8.ofInt (32)).toInt32) then (fn_Md_here_0 N n  (va_up S.1 16 ((S.1 16) + (Int32.ofInt 1)), S.2)) else (fn_Md_here_43 N  S)) else none)) := rfl
def fn_Md_here (N : Nat) (S : MS) : Option (Int32 × MS) := fn_Md_here_0 N N S
theorem w_Md_here_72 {l : Launch} {G : ag_G} {d N : Nat} {h : ag_H} {a : Nat} (hb : md_ok h a) {s0 : Int32} {S : MS} {res : Int32 × MS} (hyp : fn_Md_here_72 N s0 S = some res) : ag_ev gc_P l G m_Md_here (d) (ag_ret gc_P G (fun v h' => v = some (.int res.1) ∧ h' = md_up h a res.2)) 72 [(0, .ref a)] [.int (s0)] (md_up h a S) := by
  unfold fn_Md_here_72 at hyp
  cases hyp
  exact ag_iret d_Md_here_72 rfl rfl ⟨rfl, rfl⟩
theorem w_Md_here_43 {l : Launch} {G : ag_G} {d N : Nat} {h : ag_H} {a : Nat} (hb : md_ok h a) {S : MS} {res : Int32 × MS} (hyp : fn_Md_here_43 N S = some res) : ag_ev gc_P l G m_Md_here (d) (ag_ret gc_P G (fun v h' => v = some (.int res.1) ∧ h' = md_up h a res.2)) 43 [(0, .ref a)] [] (md_up h a S) := by
  unfold fn_Md_here_43 at hyp
  refine ag_aload_n d_Md_here_43 rfl ?_
  refine md_get hb d_Md_here_44 fr_Md_87 rfl ?_
  refine ag_aload_n d_Md_here_47 rfl ?_
  refine md_get hb d_Md_here_48 fr_Md_90 rfl ?_
  refine ag_icmp_ge d_Md_here_51 rfl (fun q => ?_) (fun q => ?_)
  · replace hyp := md_ifp q hyp
    refine ag_iconst d_Md_here_71 ?_
    exact ag_dr (ag_d1 rfl ag_d0) (w_Md_here_72 hb hyp)
  · replace hyp := md_ifn q hyp
    refine ag_aload_n d_Md_here_54 rfl ?_
    refine md_get hb d_Md_here_55 fr_Md_7 rfl ?_
    refine ag_aload_n d_Md_here_58 rfl ?_
    refine md_get hb d_Md_here_59 fr_Md_93 rfl ?_
    refine ag_aload_n d_Md_here_62 rfl ?_
    refine md_get hb d_Md_here_63 fr_Md_87 rfl ?_
    refine ag_iadd d_Md_here_66 ?_
    obtain ⟨qi, hyp⟩ := md_ifs hyp
    refine md_ald hb d_Md_here_67 (by decide) (by decide) rfl qi ?_
    refine ag_goto d_Md_here_68 rfl ?_
    exact ag_dr (ag_d1 rfl ag_d0) (w_Md_here_72 hb hyp)
theorem w_Md_here_0 {l : Launch} {G : ag_G} {d N : Nat} {h : ag_H} {a : Nat} (hb : md_ok h a) : ∀ (n : Nat) (res : Int32 × MS) (S : MS) , fn_Md_here_0 N n S = some res → ag_ev gc_P l G m_Md_here (d) (ag_ret gc_P G (fun v h' => v = some (.int res.1) ∧ h' = md_up h a res.2)) 0 [(0, .ref a)] [] (md_up h a S) := by
  intro n
  induction n with
  | zero =>
    intro res S hyp
    cases hyp
  | succ n ih =>
    intro res S hyp
    rw [fe_Md_here_0] at hyp
    refine ag_aload_n d_Md_here_0 rfl ?_
    refine md_get hb d_Md_here_1 fr_Md_87 rfl ?_
    refine ag_aload_n d_Md_here_4 rfl ?_
    refine md_get hb d_Md_here_5 fr_Md_90 rfl ?_
    refine ag_icmp_ge d_Md_here_8 rfl (fun q => ?_) (fun q => ?_)
    · replace hyp := md_ifp q hyp
      exact ag_dr (ag_d1 rfl ag_d0) (w_Md_here_43 hb hyp)
    · replace hyp := md_ifn q hyp
      refine ag_aload_n d_Md_here_11 rfl ?_
      refine md_get hb d_Md_here_12 fr_Md_7 rfl ?_
      refine ag_aload_n d_Md_here_15 rfl ?_
      refine md_get hb d_Md_here_16 fr_Md_93 rfl ?_
      refine ag_aload_n d_Md_here_19 rfl ?_
      refine md_get hb d_Md_here_20 fr_Md_87 rfl ?_
      refine ag_iadd d_Md_here_23 ?_
      obtain ⟨qi, hyp⟩ := md_ifs hyp
      refine md_ald hb d_Md_here_24 (by decide) (by decide) rfl qi ?_
      refine ag_bipush d_Md_here_25 ?_
      refine ag_icmp_ne d_Md_here_27 rfl (fun q => ?_) (fun q => ?_)
      · replace hyp := md_ifn q hyp
        exact ag_dr (ag_d1 rfl ag_d0) (w_Md_here_43 hb hyp)
      · replace hyp := md_ifp q hyp
        refine ag_aload_n d_Md_here_30 rfl ?_
        refine ag_dup d_Md_here_31 rfl ?_
        refine md_get hb d_Md_here_32 fr_Md_87 rfl ?_
        refine ag_iconst d_Md_here_35 ?_
        refine ag_iadd d_Md_here_36 ?_
        refine md_puti hb d_Md_here_37 fl_Md_87 rfl (by decide) rfl rfl ?_
        refine ag_goto d_Md_here_40 rfl ?_
        exact ag_dr (ag_d1 rfl ag_d0) (ih _ _ hyp)
theorem w_Md_here {l : Launch} {G : ag_G} {d N : Nat} {h : ag_H} {a : Nat} (hb : md_ok h a) (hH : 0 ≤ d) {S : MS} {res : Int32 × MS} (hyp : fn_Md_here N S = some res) : ag_Met gc_P l G m_Md_here d [.ref a] (md_up h a S) (fun v h' => v = some (.int res.1) ∧ h' = md_up h a res.2) := by
  exact ag_met (by decide) rfl (Nat.le_of_ble_eq_true rfl) (ag_dr (ag_d1 rfl ag_d0) (w_Md_here_0 hb N _ _ hyp))
def fn_Md_next_32 (N : Nat) (x2 : Int32) (s1 : Int32) (S : MS) : Option (Int32 × MS) := if md_01 (x2) = true then (some ((x2), (va_up S.1 16 (s1), S.2))) else none
def fn_Md_next_13 (N : Nat) (s0 : Int32) (S : MS) : Option (Int32 × MS) := if (s0) = (0) then (fn_Md_next_32 N (s0) (S.1 16) S) else (fn_Md_next_32 N (s0) ((S.1 16) + (Int32.ofInt 1)) S)
def fn_Md_next_0 (N : Nat) (x1 : Int32) (S : MS) : Option (Int32 × MS) := (fn_Md_here N S).bind fun r1 => if (r1.1) = (x1) then (fn_Md_next_13 N (Int32.ofInt 1) r1.2) else (fn_Md_next_13 N (Int32.ofInt 0) r1.2)
def fn_Md_next (N : Nat) (p1 : Int32) (S : MS) : Option (Int32 × MS) := fn_Md_next_0 N p1 S
theorem w_Md_next_32 {l : Launch} {G : ag_G} {d N : Nat} {h : ag_H} {a : Nat} (hb : md_ok h a) (hH : 0 ≤ d) {x2 : Int32} {s1 : Int32} {S : MS} {res : Int32 × MS} (hyp : fn_Md_next_32 N x2 s1 S = some res) : ag_ev gc_P l G m_Md_next (d + 1) (ag_ret gc_P G (fun v h' => v = some (.int res.1) ∧ h' = md_up h a res.2)) 32 [(0, .ref a), (2, .int (x2))] [.int (s1), .ref a] (md_up h a S) := by
  unfold fn_Md_next_32 at hyp
  refine md_puti hb d_Md_next_32 fl_Md_87 rfl (by decide) rfl rfl ?_
  refine ag_iload_n d_Md_next_35 rfl ?_
  obtain ⟨qz, hyp⟩ := md_ifs hyp
  cases hyp
  exact ag_iret d_Md_next_36 rfl (md_01n qz) ⟨rfl, rfl⟩
theorem w_Md_next_13 {l : Launch} {G : ag_G} {d N : Nat} {h : ag_H} {a : Nat} (hb : md_ok h a) (hH : 0 ≤ d) {s0 : Int32} {S : MS} {res : Int32 × MS} (hyp : fn_Md_next_13 N s0 S = some res) : ag_ev gc_P l G m_Md_next (d + 1) (ag_ret gc_P G (fun v h' => v = some (.int res.1) ∧ h' = md_up h a res.2)) 13 [(0, .ref a)] [.int (s0)] (md_up h a S) := by
  unfold fn_Md_next_13 at hyp
  refine ag_istore_n d_Md_next_13 (by decide) ?_
  refine ag_aload_n d_Md_next_14 rfl ?_
  refine ag_iload_n d_Md_next_15 rfl ?_
  refine ag_if_eq d_Md_next_16 rfl (fun q => ?_) (fun q => ?_)
  · replace hyp := md_ifp q hyp
    refine ag_aload_n d_Md_next_28 rfl ?_
    refine md_get hb d_Md_next_29 fr_Md_87 rfl ?_
    exact ag_dr (ag_d1 rfl (ag_d1 rfl ag_d0)) (w_Md_next_32 hb hH hyp)
  · replace hyp := md_ifn q hyp
    refine ag_aload_n d_Md_next_19 rfl ?_
    refine md_get hb d_Md_next_20 fr_Md_87 rfl ?_
    refine ag_iconst d_Md_next_23 ?_
    refine ag_iadd d_Md_next_24 ?_
    refine ag_goto d_Md_next_25 rfl ?_
    exact ag_dr (ag_d1 rfl (ag_d1 rfl ag_d0)) (w_Md_next_32 hb hH hyp)
theorem w_Md_next_0 {l : Launch} {G : ag_G} {d N : Nat} {h : ag_H} {a : Nat} (hb : md_ok h a) (hH : 0 ≤ d) {x1 : Int32} {S : MS} {res : Int32 × MS} (hyp : fn_Md_next_0 N x1 S = some res) : ag_ev gc_P l G m_Md_next (d + 1) (ag_ret gc_P G (fun v h' => v = some (.int res.1) ∧ h' = md_up h a res.2)) 0 [(0, .ref a), (1, .int (x1))] [] (md_up h a S) := by
  unfold fn_Md_next_0 at hyp
  refine ag_aload_n d_Md_next_0 rfl ?_
  obtain ⟨r1, e1, hyp⟩ := md_bd hyp
  refine ag_callv (as := []) d_Md_next_1 ml_Md_96 gw_1103 rfl sl_Md_here (md_at0 hb _) (Nat.le_of_ble_eq_true rfl) (w_Md_here hb (d := d) (by omega) e1) (fun v1 h1 q1 => ?_)
  obtain ⟨rfl, rfl⟩ := q1
  refine ag_iload_n d_Md_next_4 rfl ?_
  refine ag_icmp_ne d_Md_next_5 rfl (fun q => ?_) (fun q => ?_)
  · replace hyp := md_ifn q hyp
    refine ag_iconst d_Md_next_12 ?_
    exact ag_dr (ag_d1 rfl ag_d0) (w_Md_next_13 hb hH hyp)
  · replace hyp := md_ifp q hyp
    refine ag_iconst d_Md_next_8 ?_
    refine ag_goto d_Md_next_9 rfl ?_
    exact ag_dr (ag_d1 rfl ag_d0) (w_Md_next_13 hb hH hyp)
theorem w_Md_next {l : Launch} {G : ag_G} {d N : Nat} {h : ag_H} {a : Nat} (hb : md_ok h a) (hH : 1 ≤ d) {p1 : Int32} {S : MS} {res : Int32 × MS} (hyp : fn_Md_next N p1 S = some res) : ag_Met gc_P l G m_Md_next d [.ref a, .int (p1)] (md_up h a S) (fun v h' => v = some (.int res.1) ∧ h' = md_up h a res.2) := by
  obtain ⟨d, rfl, hG⟩ := md_dd hH
  exact ag_met (by decide) rfl (Nat.le_of_ble_eq_true rfl) (ag_dr (ag_d1 rfl (ag_d1 rfl ag_d0)) (w_Md_next_0 hb hG hyp))
def fn_Md_peek_23 (N : Nat) (s0 : Int32) (S : MS) : Option (Int32 × MS) := some ((s0), S)
def fn_Md_peek_0 (N : Nat) (x1 : Int32) (S : MS) : Option (Int32 × MS) := if (S.1 18) ≤ (x1) then (fn_Md_peek_23 N (Int32.ofInt 0) S) else (if md_in ((S.1 17) + (x1)) (md_len 1) = true then (fn_Md_peek_23 N (S.2 1 ((S.1 17) + (x1)).toNatClampNeg) S) else none)
def fn_Md_peek (N : Nat) (p1 : Int32) (S : MS) : Option (Int32 × MS) := fn_Md_peek_0 N p1 S
theorem w_Md_peek_23 {l : Launch} {G : ag_G} {d N : Nat} {h : ag_H} {a : Nat} (hb : md_ok h a) {s0 : Int32} {S : MS} {res : Int32 × MS} (hyp : fn_Md_peek_23 N s0 S = some res) : ag_ev gc_P l G m_Md_peek (d) (ag_ret gc_P G (fun v h' => v = some (.int res.1) ∧ h' = md_up h a res.2)) 23 [(0, .ref a)] [.int (s0)] (md_up h a S) := by
  unfold fn_Md_peek_23 at hyp
  cases hyp
  exact ag_iret d_Md_peek_23 rfl rfl ⟨rfl, rfl⟩
theorem w_Md_peek_0 {l : Launch} {G : ag_G} {d N : Nat} {h : ag_H} {a : Nat} (hb : md_ok h a) {x1 : Int32} {S : MS} {res : Int32 × MS} (hyp : fn_Md_peek_0 N x1 S = some res) : ag_ev gc_P l G m_Md_peek (d) (ag_ret gc_P G (fun v h' => v = some (.int res.1) ∧ h' = md_up h a res.2)) 0 [(0, .ref a), (1, .int (x1))] [] (md_up h a S) := by
  unfold fn_Md_peek_0 at hyp
  refine ag_iload_n d_Md_peek_0 rfl ?_
  refine ag_aload_n d_Md_peek_1 rfl ?_
  refine md_get hb d_Md_peek_2 fr_Md_90 rfl ?_
  refine ag_icmp_ge d_Md_peek_5 rfl (fun q => ?_) (fun q => ?_)
  · replace hyp := md_ifp q hyp
    refine ag_iconst d_Md_peek_22 ?_
    exact ag_dr (ag_d1 rfl ag_d0) (w_Md_peek_23 hb hyp)
  · replace hyp := md_ifn q hyp
    refine ag_aload_n d_Md_peek_8 rfl ?_
    refine md_get hb d_Md_peek_9 fr_Md_7 rfl ?_
    refine ag_aload_n d_Md_peek_12 rfl ?_
    refine md_get hb d_Md_peek_13 fr_Md_93 rfl ?_
    refine ag_iload_n d_Md_peek_16 rfl ?_
    refine ag_iadd d_Md_peek_17 ?_
    obtain ⟨qi, hyp⟩ := md_ifs hyp
    refine md_ald hb d_Md_peek_18 (by decide) (by decide) rfl qi ?_
    refine ag_goto d_Md_peek_19 rfl ?_
    exact ag_dr (ag_d1 rfl ag_d0) (w_Md_peek_23 hb hyp)
theorem w_Md_peek {l : Launch} {G : ag_G} {d N : Nat} {h : ag_H} {a : Nat} (hb : md_ok h a) (hH : 0 ≤ d) {p1 : Int32} {S : MS} {res : Int32 × MS} (hyp : fn_Md_peek N p1 S = some res) : ag_Met gc_P l G m_Md_peek d [.ref a, .int (p1)] (md_up h a S) (fun v h' => v = some (.int res.1) ∧ h' = md_up h a res.2) := by
  exact ag_met (by decide) rfl (Nat.le_of_ble_eq_true rfl) (ag_dr (ag_d1 rfl (ag_d1 rfl ag_d0)) (w_Md_peek_0 hb hyp))
def fn_Md_digit_17 (N : Nat) (s0 : Int32) : Option Int32 := if md_01 (s0) = true then (some (s0)) else none
def fn_Md_digit_16 (N : Nat) : Option Int32 := fn_Md_digit_17 N (Int32.ofInt 0)
def fn_Md_digit_0 (N : Nat) (x0 : Int32) : Option Int32 := if (x0) < ((Int8.ofInt (48)).toInt32) then (fn_Md_digit_16 N ) else (if ((Int8.ofInt (57)).toInt32) < (x0) then (fn_Md_digit_16 N ) else (fn_Md_digit_17 N (Int32.ofInt 1)))
def fn_Md_digit (N : Nat) (p0 : Int32) : Option Int32 := fn_Md_digit_0 N p0
theorem w_Md_digit_17 {l : Launch} {G : ag_G} {d N : Nat} {h : ag_H} {s0 : Int32} {res : Int32} (hyp : fn_Md_digit_17 N s0 = some res) : ag_ev gc_P l G m_Md_digit (d) (ag_ret gc_P G (fun v h' => v = some (.int res) ∧ h' = h)) 17 [] [.int (s0)] (h) := by
  unfold fn_Md_digit_17 at hyp
  obtain ⟨qz, hyp⟩ := md_ifs hyp
  cases hyp
  exact ag_iret d_Md_digit_17 rfl (md_01n qz) ⟨rfl, rfl⟩
theorem w_Md_digit_16 {l : Launch} {G : ag_G} {d N : Nat} {h : ag_H} {res : Int32} (hyp : fn_Md_digit_16 N  = some res) : ag_ev gc_P l G m_Md_digit (d) (ag_ret gc_P G (fun v h' => v = some (.int res) ∧ h' = h)) 16 [] [] (h) := by
  unfold fn_Md_digit_16 at hyp
  refine ag_iconst d_Md_digit_16 ?_
  exact ag_dr ag_d0 (w_Md_digit_17 hyp)
theorem w_Md_digit_0 {l : Launch} {G : ag_G} {d N : Nat} {h : ag_H} {x0 : Int32} {res : Int32} (hyp : fn_Md_digit_0 N x0 = some res) : ag_ev gc_P l G m_Md_digit (d) (ag_ret gc_P G (fun v h' => v = some (.int res) ∧ h' = h)) 0 [(0, .int (x0))] [] (h) := by
  unfold fn_Md_digit_0 at hyp
  refine ag_iload_n d_Md_digit_0 rfl ?_
  refine ag_bipush d_Md_digit_1 ?_
  refine ag_icmp_lt d_Md_digit_3 rfl (fun q => ?_) (fun q => ?_)
  · replace hyp := md_ifp q hyp
    exact ag_dr ag_d0 (w_Md_digit_16 hyp)
  · replace hyp := md_ifn q hyp
    refine ag_iload_n d_Md_digit_6 rfl ?_
    refine ag_bipush d_Md_digit_7 ?_
    refine ag_icmp_gt d_Md_digit_9 rfl (fun q => ?_) (fun q => ?_)
    · replace hyp := md_ifp q hyp
      exact ag_dr ag_d0 (w_Md_digit_16 hyp)
    · replace hyp := md_ifn q hyp
      refine ag_iconst d_Md_digit_12 ?_
      refine ag_goto d_Md_digit_13 rfl ?_
      exact ag_dr ag_d0 (w_Md_digit_17 hyp)
theorem w_Md_digit {l : Launch} {G : ag_G} {d N : Nat} {h : ag_H} (hH : 0 ≤ d) {p0 : Int32} {res : Int32} (hyp : fn_Md_digit N p0 = some res) : ag_Met gc_P l G m_Md_digit d [.int (p0)] (h) (fun v h' => v = some (.int res) ∧ h' = h) := by
  exact ag_met (by decide) rfl (Nat.le_of_ble_eq_true rfl) (ag_dr (ag_d1 rfl ag_d0) (w_Md_digit_0 hyp))
def fn_Md_number_78 (N : Nat) (x1 : Int32) (s1 : Int32) (S : MS) : Option (Int32 × MS) := if md_01 (s1) = true then (some ((x1), (va_up S.1 20 (s1), S.2))) else none
def fn_Md_number_73 (N : Nat) (x1 : Int32) (S : MS) : Option (Int32 × MS) := fn_Md_number_78 N (x1) (Int32.ofInt 1) S
def fn_Md_number_56 (N : Nat) (x1 : Int32) (x2 : Int32) (S : MS) : Option (Int32 × MS) := if (S.1 20) = (0) then (if (x2) = (0) then (fn_Md_number_73 N (x1) S) else (if (x2) ≤ (Int32.ofInt 4) then (fn_Md_number_78 N (x1) (Int32.ofInt 0) S) else (fn_Md_number_73 N (x1) S))) else (fn_Md_number_73 N (x1) S)
def fn_Md_number_4 (N : Nat) : Nat → Int32 → Int32 → MS → Option (Int32 × MS)
  | 0, _, _, _ => none
  | n + 1, x1, x2, S => (fn_Md_peek N (S.1 16) S).bind fun r1 => (fn_Md_digit N (r1.1)).bind fun r2 => if (r2) = (0) then (fn_Md_number_56 N (x1) (x2) r1.2) else (if (Int32.ofInt 5) ≤ (x2) then (fn_Md_number_56 N (x1) (x2) r1.2) else ((fn_Md_peek N (r1.2.1 16) r1.2).bind fun r3 => fn_Md_number_4 N n (((((Int8.ofInt (10)).toInt32) * (x1)) + (r3.1)) - ((Int8.ofInt (48)).toInt32)) ((x2) + Int32.ofInt (1)) (va_up r3.2.1 16 ((r3.2.1 16) + (Int32.ofInt 1)), r3.2.2)))
theorem fe_Md_number_4 (N : Nat) (n : Nat) (x1 : Int32) (x2 : Int32) (S : MS) : fn_Md_number_4 N (n + 1) x1 x2 S = ((fn_Md_peek N (S.1 16) S).bind fun r1 => (fn_Md_digit N (r1.1)).bind fun r2 => if (r2) = (0) then (fn_Md_number_56 N (x1) (x2) r1.2) else (if (Int32.ofInt 5) ≤ (x2) then (fn_Md_number_56 N (x1) (x2) r1.2) else ((fn_Md_peek N (r1.2.1 16) r1.2).bind fun r3 => fn_Md_number_4 N n (((((Int8.ofInt (10)).toInt32) * (x1)) + (r3.1)) - ((Int8.ofInt (48)).toInt32)) ((x2) + Int32.ofInt (1)) (va_up r3.2.1 16 ((r3.2.1 16) + (Int32.ofInt 1)), r3.2.2)))) := rfl
def fn_Md_number_0 (N : Nat) (S : MS) : Option (Int32 × MS) := fn_Md_number_4 N N (Int32.ofInt 0) (Int32.ofInt 0) S
def fn_Md_number (N : Nat) (S : MS) : Option (Int32 × MS) := fn_Md_number_0 N S
theorem w_Md_number_78 {l : Launch} {G : ag_G} {d N : Nat} {h : ag_H} {a : Nat} (hb : md_ok h a) (hH : 0 ≤ d) {x1 : Int32} {s1 : Int32} {S : MS} {res : Int32 × MS} (hyp : fn_Md_number_78 N x1 s1 S = some res) : ag_ev gc_P l G m_Md_number (d + 1) (ag_ret gc_P G (fun v h' => v = some (.int res.1) ∧ h' = md_up h a res.2)) 78 [(0, .ref a), (1, .int (x1))] [.int (s1), .ref a] (md_up h a S) := by
  unfold fn_Md_number_78 at hyp
  obtain ⟨qz, hyp⟩ := md_ifs hyp
  refine md_putz hb d_Md_number_78 fl_Md_108 rfl (by decide) qz ?_
  refine ag_iload_n d_Md_number_81 rfl ?_
  cases hyp
  exact ag_iret d_Md_number_82 rfl rfl ⟨rfl, rfl⟩
theorem w_Md_number_73 {l : Launch} {G : ag_G} {d N : Nat} {h : ag_H} {a : Nat} (hb : md_ok h a) (hH : 0 ≤ d) {x1 : Int32} {S : MS} {res : Int32 × MS} (hyp : fn_Md_number_73 N x1 S = some res) : ag_ev gc_P l G m_Md_number (d + 1) (ag_ret gc_P G (fun v h' => v = some (.int res.1) ∧ h' = md_up h a res.2)) 73 [(0, .ref a), (1, .int (x1))] [.ref a] (md_up h a S) := by
  unfold fn_Md_number_73 at hyp
  refine ag_iconst d_Md_number_73 ?_
  refine ag_goto d_Md_number_74 rfl ?_
  exact ag_dr (ag_d1 rfl (ag_d1 rfl ag_d0)) (w_Md_number_78 hb hH hyp)
theorem w_Md_number_56 {l : Launch} {G : ag_G} {d N : Nat} {h : ag_H} {a : Nat} (hb : md_ok h a) (hH : 0 ≤ d) {x1 : Int32} {x2 : Int32} {S : MS} {res : Int32 × MS} (hyp : fn_Md_number_56 N x1 x2 S = some res) : ag_ev gc_P l G m_Md_number (d + 1) (ag_ret gc_P G (fun v h' => v = some (.int res.1) ∧ h' = md_up h a res.2)) 56 [(0, .ref a), (1, .int (x1)), (2, .int (x2))] [] (md_up h a S) := by
  unfold fn_Md_number_56 at hyp
  refine ag_aload_n d_Md_number_56 rfl ?_
  refine ag_aload_n d_Md_number_57 rfl ?_
  refine md_get hb d_Md_number_58 fr_Md_108 rfl ?_
  refine ag_if_ne d_Md_number_61 rfl (fun q => ?_) (fun q => ?_)
  · replace hyp := md_ifn q hyp
    exact ag_dr (ag_d1 rfl (ag_d1 rfl ag_d0)) (w_Md_number_73 hb hH hyp)
  · replace hyp := md_ifp q hyp
    refine ag_iload_n d_Md_number_64 rfl ?_
    refine ag_if_eq d_Md_number_65 rfl (fun q => ?_) (fun q => ?_)
    · replace hyp := md_ifp q hyp
      exact ag_dr (ag_d1 rfl (ag_d1 rfl ag_d0)) (w_Md_number_73 hb hH hyp)
    · replace hyp := md_ifn q hyp
      refine ag_iload_n d_Md_number_68 rfl ?_
      refine ag_iconst d_Md_number_69 ?_
      refine ag_icmp_le d_Md_number_70 rfl (fun q => ?_) (fun q => ?_)
      · replace hyp := md_ifp q hyp
        refine ag_iconst d_Md_number_77 ?_
        exact ag_dr (ag_d1 rfl (ag_d1 rfl ag_d0)) (w_Md_number_78 hb hH hyp)
      · replace hyp := md_ifn q hyp
        exact ag_dr (ag_d1 rfl (ag_d1 rfl ag_d0)) (w_Md_number_73 hb hH hyp)
theorem w_Md_number_4 {l : Launch} {G : ag_G} {d N : Nat} {h : ag_H} {a : Nat} (hb : md_ok h a) (hH : 0 ≤ d) : ∀ (n : Nat) (res : Int32 × MS) (x1 : Int32) (x2 : Int32) (S : MS) , fn_Md_number_4 N n x1 x2 S = some res → ag_ev gc_P l G m_Md_number (d + 1) (ag_ret gc_P G (fun v h' => v = some (.int res.1) ∧ h' = md_up h a res.2)) 4 [(0, .ref a), (1, .int (x1)), (2, .int (x2))] [] (md_up h a S) := by
  intro n
  induction n with
  | zero =>
    intro res x1 x2 S hyp
    cases hyp
  | succ n ih =>
    intro res x1 x2 S hyp
    rw [fe_Md_number_4] at hyp
    refine ag_aload_n d_Md_number_4 rfl ?_
    refine ag_aload_n d_Md_number_5 rfl ?_
    refine md_get hb d_Md_number_6 fr_Md_87 rfl ?_
    obtain ⟨r1, e1, hyp⟩ := md_bd hyp
    refine ag_callv (as := [.int (S.1 16)]) d_Md_number_9 ml_Md_100 gw_1124 rfl sl_Md_peek (md_at0 hb _) (Nat.le_of_ble_eq_true rfl) (w_Md_peek hb (d := d) (by omega) e1) (fun v1 h1 q1 => ?_)
    obtain ⟨rfl, rfl⟩ := q1
    obtain ⟨r2, e2, hyp⟩ := md_bd hyp
    refine ag_calls (as := [.int (r1.1)]) d_Md_number_12 ml_Md_104 gw_1127 (Nat.le_of_ble_eq_true rfl) (w_Md_digit (d := d) (by omega) e2) (fun v2 h2 q2 => ?_)
    obtain ⟨rfl, rfl⟩ := q2
    refine ag_if_eq d_Md_number_15 rfl (fun q => ?_) (fun q => ?_)
    · replace hyp := md_ifp q hyp
      exact ag_dr (ag_d1 rfl (ag_d1 rfl (ag_d1 rfl ag_d0))) (w_Md_number_56 hb hH hyp)
    · replace hyp := md_ifn q hyp
      refine ag_iload_n d_Md_number_18 rfl ?_
      refine ag_iconst d_Md_number_19 ?_
      refine ag_icmp_ge d_Md_number_20 rfl (fun q => ?_) (fun q => ?_)
      · replace hyp := md_ifp q hyp
        exact ag_dr (ag_d1 rfl (ag_d1 rfl (ag_d1 rfl ag_d0))) (w_Md_number_56 hb hH hyp)
      · replace hyp := md_ifn q hyp
        refine ag_bipush d_Md_number_23 ?_
        refine ag_iload_n d_Md_number_25 rfl ?_
        refine ag_imul d_Md_number_26 ?_
        refine ag_aload_n d_Md_number_27 rfl ?_
        refine ag_aload_n d_Md_number_28 rfl ?_
        refine md_get hb d_Md_number_29 fr_Md_87 rfl ?_
        obtain ⟨r3, e3, hyp⟩ := md_bd hyp
        refine ag_callv (as := [.int (r1.2.1 16)]) d_Md_number_32 ml_Md_100 gw_1124 rfl sl_Md_peek (md_at0 hb _) (Nat.le_of_ble_eq_true rfl) (w_Md_peek hb (d := d) (by omega) e3) (fun v3 h3 q3 => ?_)
        obtain ⟨rfl, rfl⟩ := q3
        refine ag_iadd d_Md_number_35 ?_
        refine ag_bipush d_Md_number_36 ?_
        refine ag_isub d_Md_number_38 ?_
        refine ag_istore_n d_Md_number_39 (by decide) ?_
        refine ag_aload_n d_Md_number_40 rfl ?_
        refine ag_dup d_Md_number_41 rfl ?_
        refine md_get hb d_Md_number_42 fr_Md_87 rfl ?_
        refine ag_iconst d_Md_number_45 ?_
        refine ag_iadd d_Md_number_46 ?_
        refine md_puti hb d_Md_number_47 fl_Md_87 rfl (by decide) rfl rfl ?_
        refine ag_iinc d_Md_number_50 rfl (by decide) ?_
        refine ag_goto d_Md_number_53 rfl ?_
        exact ag_dr (ag_d1 rfl (ag_d1 rfl (ag_d1 rfl ag_d0))) (ih _ _ _ _ hyp)
theorem w_Md_number_0 {l : Launch} {G : ag_G} {d N : Nat} {h : ag_H} {a : Nat} (hb : md_ok h a) (hH : 0 ≤ d) {S : MS} {res : Int32 × MS} (hyp : fn_Md_number_0 N S = some res) : ag_ev gc_P l G m_Md_number (d + 1) (ag_ret gc_P G (fun v h' => v = some (.int res.1) ∧ h' = md_up h a res.2)) 0 [(0, .ref a)] [] (md_up h a S) := by
  unfold fn_Md_number_0 at hyp
  refine ag_iconst d_Md_number_0 ?_
  refine ag_istore_n d_Md_number_1 (by decide) ?_
  refine ag_iconst d_Md_number_2 ?_
  refine ag_istore_n d_Md_number_3 (by decide) ?_
  exact ag_dr (ag_d1 rfl (ag_d1 rfl (ag_d1 rfl ag_d0))) (w_Md_number_4 hb hH N _ _ _ _ hyp)
theorem w_Md_number {l : Launch} {G : ag_G} {d N : Nat} {h : ag_H} {a : Nat} (hb : md_ok h a) (hH : 1 ≤ d) {S : MS} {res : Int32 × MS} (hyp : fn_Md_number N S = some res) : ag_Met gc_P l G m_Md_number d [.ref a] (md_up h a S) (fun v h' => v = some (.int res.1) ∧ h' = md_up h a res.2) := by
  obtain ⟨d, rfl, hG⟩ := md_dd hH
  exact ag_met (by decide) rfl (Nat.le_of_ble_eq_true rfl) (ag_dr (ag_d1 rfl ag_d0) (w_Md_number_0 hb hG hyp))
def fn_Md_term_101 (N : Nat) (s0 : Int32) (s1 : Int32) (S : MS) : Option (Int32 × MS) := some (((s0) + (s1)), S)
def fn_Md_term_80 (N : Nat) (x2 : Int32) (s1 : Int32) (S : MS) : Option (Int32 × MS) := (fn_Md_number N (va_up S.1 16 (s1), S.2)).bind fun r1 => if (x2) = (0) then (fn_Md_term_101 N ((Int16.ofInt (10000)).toInt32) (r1.1) r1.2) else (fn_Md_term_101 N ((Int16.ofInt (10000)).toInt32) (-(r1.1)) r1.2)
def fn_Md_term_61 (N : Nat) (s0 : Int32) (S : MS) : Option (Int32 × MS) := if (s0) = (0) then (fn_Md_term_80 N (s0) (S.1 16) S) else (fn_Md_term_80 N (s0) ((S.1 16) + (Int32.ofInt 1)) S)
def fn_Md_term_50 (N : Nat) (x1 : Int32) (S : MS) : Option (Int32 × MS) := if (x1) = ((Int8.ofInt (45)).toInt32) then (fn_Md_term_61 N (Int32.ofInt 1) S) else (fn_Md_term_61 N (Int32.ofInt 0) S)
def fn_Md_term_0 (N : Nat) (S : MS) : Option (Int32 × MS) := (fn_Md_here N S).bind fun r1 => if (r1.1) < ((Int8.ofInt (65)).toInt32) then (fn_Md_term_50 N (r1.1) r1.2) else (if ((Int8.ofInt (72)).toInt32) < (r1.1) then (fn_Md_term_50 N (r1.1) r1.2) else (some (((((100000 : Int32)) + (r1.1)) - ((Int8.ofInt (65)).toInt32)), (va_up (va_up r1.2.1 16 ((r1.2.1 16) + (Int32.ofInt 1)), r1.2.2).1 26 (((va_up r1.2.1 16 ((r1.2.1 16) + (Int32.ofInt 1)), r1.2.2).1 26) ||| ((Int32.ofInt 1) <<< (((r1.1) - ((Int8.ofInt (65)).toInt32)) &&& 31))), (va_up r1.2.1 16 ((r1.2.1 16) + (Int32.ofInt 1)), r1.2.2).2))))
def fn_Md_term (N : Nat) (S : MS) : Option (Int32 × MS) := fn_Md_term_0 N S
theorem w_Md_term_101 {l : Launch} {G : ag_G} {d N : Nat} {h : ag_H} {a : Nat} (hb : md_ok h a) (hH : 1 ≤ d) {s0 : Int32} {s1 : Int32} {S : MS} {res : Int32 × MS} (hyp : fn_Md_term_101 N s0 s1 S = some res) : ag_ev gc_P l G m_Md_term (d + 1) (ag_ret gc_P G (fun v h' => v = some (.int res.1) ∧ h' = md_up h a res.2)) 101 [(0, .ref a)] [.int (s1), .int (s0)] (md_up h a S) := by
  unfold fn_Md_term_101 at hyp
  refine ag_iadd d_Md_term_101 ?_
  cases hyp
  exact ag_iret d_Md_term_102 rfl rfl ⟨rfl, rfl⟩
theorem w_Md_term_80 {l : Launch} {G : ag_G} {d N : Nat} {h : ag_H} {a : Nat} (hb : md_ok h a) (hH : 1 ≤ d) {x2 : Int32} {s1 : Int32} {S : MS} {res : Int32 × MS} (hyp : fn_Md_term_80 N x2 s1 S = some res) : ag_ev gc_P l G m_Md_term (d + 1) (ag_ret gc_P G (fun v h' => v = some (.int res.1) ∧ h' = md_up h a res.2)) 80 [(0, .ref a), (2, .int (x2))] [.int (s1), .ref a] (md_up h a S) := by
  unfold fn_Md_term_80 at hyp
  refine md_puti hb d_Md_term_80 fl_Md_87 rfl (by decide) rfl rfl ?_
  refine ag_aload_n d_Md_term_83 rfl ?_
  obtain ⟨r1, e1, hyp⟩ := md_bd hyp
  refine ag_callv (as := []) d_Md_term_84 ml_Md_138 gw_1120 rfl sl_Md_number (md_at0 hb _) (Nat.le_of_ble_eq_true rfl) (w_Md_number hb (d := d) (by omega) e1) (fun v1 h1 q1 => ?_)
  obtain ⟨rfl, rfl⟩ := q1
  refine ag_istore_n d_Md_term_87 (by decide) ?_
  refine ag_sipush d_Md_term_88 ?_
  refine ag_iload_n d_Md_term_91 rfl ?_
  refine ag_if_eq d_Md_term_92 rfl (fun q => ?_) (fun q => ?_)
  · replace hyp := md_ifp q hyp
    refine ag_iload_n d_Md_term_100 rfl ?_
    exact ag_dr (ag_d1 rfl ag_d0) (w_Md_term_101 hb hH hyp)
  · replace hyp := md_ifn q hyp
    refine ag_iload_n d_Md_term_95 rfl ?_
    refine ag_ineg d_Md_term_96 ?_
    refine ag_goto d_Md_term_97 rfl ?_
    exact ag_dr (ag_d1 rfl ag_d0) (w_Md_term_101 hb hH hyp)
theorem w_Md_term_61 {l : Launch} {G : ag_G} {d N : Nat} {h : ag_H} {a : Nat} (hb : md_ok h a) (hH : 1 ≤ d) {s0 : Int32} {S : MS} {res : Int32 × MS} (hyp : fn_Md_term_61 N s0 S = some res) : ag_ev gc_P l G m_Md_term (d + 1) (ag_ret gc_P G (fun v h' => v = some (.int res.1) ∧ h' = md_up h a res.2)) 61 [(0, .ref a)] [.int (s0)] (md_up h a S) := by
  unfold fn_Md_term_61 at hyp
  refine ag_istore_n d_Md_term_61 (by decide) ?_
  refine ag_aload_n d_Md_term_62 rfl ?_
  refine ag_iload_n d_Md_term_63 rfl ?_
  refine ag_if_eq d_Md_term_64 rfl (fun q => ?_) (fun q => ?_)
  · replace hyp := md_ifp q hyp
    refine ag_aload_n d_Md_term_76 rfl ?_
    refine md_get hb d_Md_term_77 fr_Md_87 rfl ?_
    exact ag_dr (ag_d1 rfl (ag_d1 rfl ag_d0)) (w_Md_term_80 hb hH hyp)
  · replace hyp := md_ifn q hyp
    refine ag_aload_n d_Md_term_67 rfl ?_
    refine md_get hb d_Md_term_68 fr_Md_87 rfl ?_
    refine ag_iconst d_Md_term_71 ?_
    refine ag_iadd d_Md_term_72 ?_
    refine ag_goto d_Md_term_73 rfl ?_
    exact ag_dr (ag_d1 rfl (ag_d1 rfl ag_d0)) (w_Md_term_80 hb hH hyp)
theorem w_Md_term_50 {l : Launch} {G : ag_G} {d N : Nat} {h : ag_H} {a : Nat} (hb : md_ok h a) (hH : 1 ≤ d) {x1 : Int32} {S : MS} {res : Int32 × MS} (hyp : fn_Md_term_50 N x1 S = some res) : ag_ev gc_P l G m_Md_term (d + 1) (ag_ret gc_P G (fun v h' => v = some (.int res.1) ∧ h' = md_up h a res.2)) 50 [(0, .ref a), (1, .int (x1))] [] (md_up h a S) := by
  unfold fn_Md_term_50 at hyp
  refine ag_iload_n d_Md_term_50 rfl ?_
  refine ag_bipush d_Md_term_51 ?_
  refine ag_icmp_ne d_Md_term_53 rfl (fun q => ?_) (fun q => ?_)
  · replace hyp := md_ifn q hyp
    refine ag_iconst d_Md_term_60 ?_
    exact ag_dr (ag_d1 rfl ag_d0) (w_Md_term_61 hb hH hyp)
  · replace hyp := md_ifp q hyp
    refine ag_iconst d_Md_term_56 ?_
    refine ag_goto d_Md_term_57 rfl ?_
    exact ag_dr (ag_d1 rfl ag_d0) (w_Md_term_61 hb hH hyp)
theorem w_Md_term_0 {l : Launch} {G : ag_G} {d N : Nat} {h : ag_H} {a : Nat} (hb : md_ok h a) (hH : 1 ≤ d) {S : MS} {res : Int32 × MS} (hyp : fn_Md_term_0 N S = some res) : ag_ev gc_P l G m_Md_term (d + 1) (ag_ret gc_P G (fun v h' => v = some (.int res.1) ∧ h' = md_up h a res.2)) 0 [(0, .ref a)] [] (md_up h a S) := by
  unfold fn_Md_term_0 at hyp
  refine ag_aload_n d_Md_term_0 rfl ?_
  obtain ⟨r1, e1, hyp⟩ := md_bd hyp
  refine ag_callv (as := []) d_Md_term_1 ml_Md_96 gw_1103 rfl sl_Md_here (md_at0 hb _) (Nat.le_of_ble_eq_true rfl) (w_Md_here hb (d := d) (by omega) e1) (fun v1 h1 q1 => ?_)
  obtain ⟨rfl, rfl⟩ := q1
  refine ag_istore_n d_Md_term_4 (by decide) ?_
  refine ag_iload_n d_Md_term_5 rfl ?_
  refine ag_bipush d_Md_term_6 ?_
  refine ag_icmp_lt d_Md_term_8 rfl (fun q => ?_) (fun q => ?_)
  · replace hyp := md_ifp q hyp
    exact ag_dr (ag_d1 rfl (ag_d1 rfl ag_d0)) (w_Md_term_50 hb hH hyp)
  · replace hyp := md_ifn q hyp
    refine ag_iload_n d_Md_term_11 rfl ?_
    refine ag_bipush d_Md_term_12 ?_
    refine ag_icmp_gt d_Md_term_14 rfl (fun q => ?_) (fun q => ?_)
    · replace hyp := md_ifp q hyp
      exact ag_dr (ag_d1 rfl (ag_d1 rfl ag_d0)) (w_Md_term_50 hb hH hyp)
    · replace hyp := md_ifn q hyp
      refine ag_aload_n d_Md_term_17 rfl ?_
      refine ag_dup d_Md_term_18 rfl ?_
      refine md_get hb d_Md_term_19 fr_Md_87 rfl ?_
      refine ag_iconst d_Md_term_22 ?_
      refine ag_iadd d_Md_term_23 ?_
      refine md_puti hb d_Md_term_24 fl_Md_87 rfl (by decide) rfl rfl ?_
      refine ag_aload_n d_Md_term_27 rfl ?_
      refine ag_dup d_Md_term_28 rfl ?_
      refine md_get hb d_Md_term_29 fr_Md_115 rfl ?_
      refine ag_iconst d_Md_term_32 ?_
      refine ag_iload_n d_Md_term_33 rfl ?_
      refine ag_bipush d_Md_term_34 ?_
      refine ag_isub d_Md_term_36 ?_
      refine ag_ishl d_Md_term_37 ?_
      refine ag_ior d_Md_term_38 ?_
      refine md_puti hb d_Md_term_39 fl_Md_115 rfl (by decide) rfl rfl ?_
      refine ag_ldc d_Md_term_42 gw_1117 ?_
      refine ag_iload_n d_Md_term_44 rfl ?_
      refine ag_iadd d_Md_term_45 ?_
      refine ag_bipush d_Md_term_46 ?_
      refine ag_isub d_Md_term_48 ?_
      cases hyp
      exact ag_iret d_Md_term_49 rfl rfl ⟨rfl, rfl⟩
theorem w_Md_term {l : Launch} {G : ag_G} {d N : Nat} {h : ag_H} {a : Nat} (hb : md_ok h a) (hH : 2 ≤ d) {S : MS} {res : Int32 × MS} (hyp : fn_Md_term N S = some res) : ag_Met gc_P l G m_Md_term d [.ref a] (md_up h a S) (fun v h' => v = some (.int res.1) ∧ h' = md_up h a res.2) := by
  obtain ⟨d, rfl, hG⟩ := md_dd hH
  exact ag_met (by decide) rfl (Nat.le_of_ble_eq_true rfl) (ag_dr (ag_d1 rfl ag_d0) (w_Md_term_0 hb hG hyp))
def fn_Md_readAtom_101 (N : Nat) (S : MS) : Option (Int32 × MS) := some (0, S)
def fn_Md_readAtom_226 (N : Nat) (s1 : Int32) (S : MS) : Option (Int32 × MS) := if md_01 (s1) = true then (some (0, (va_up S.1 20 (s1), S.2))) else none
def fn_Md_readAtom_221 (N : Nat) (S : MS) : Option (Int32 × MS) := fn_Md_readAtom_226 N (Int32.ofInt 1) S
def fn_Md_readAtom_204 (N : Nat) (S : MS) : Option (Int32 × MS) := if (S.1 20) = (0) then ((fn_Md_next N ((Int8.ofInt (41)).toInt32) S).bind fun r1 => if (r1.1) = (0) then (fn_Md_readAtom_221 N  r1.2) else (fn_Md_readAtom_226 N (Int32.ofInt 0) r1.2)) else (fn_Md_readAtom_221 N  S)
def fn_Md_readAtom_199 (N : Nat) (k105 : Int32 → Int32 → MS → Option (Int32 × MS)) (x3 : Int32) (s0 : Int32) (S : MS) : Option (Int32 × MS) := k105 (x3) (s0) S
def fn_Md_readAtom_198 (N : Nat) (k105 : Int32 → Int32 → MS → Option (Int32 × MS)) (x3 : Int32) (S : MS) : Option (Int32 × MS) := fn_Md_readAtom_199 N k105 (x3) (Int32.ofInt 0) S
def fn_Md_readAtom_178 (N : Nat) (k105 : Int32 → Int32 → MS → Option (Int32 × MS)) (x3 : Int32) (S : MS) : Option (Int32 × MS) := if (S.1 20) = (0) then ((fn_Md_next N ((Int8.ofInt (44)).toInt32) S).bind fun r1 => if (r1.1) = (0) then (fn_Md_readAtom_198 N k105 (x3) r1.2) else (fn_Md_readAtom_199 N k105 (x3) (Int32.ofInt 1) r1.2)) else (fn_Md_readAtom_198 N k105 (x3) S)
def fn_Md_readAtom_147 (N : Nat) (k105 : Int32 → Int32 → MS → Option (Int32 × MS)) (x3 : Int32) (s1 : Int32) (S : MS) : Option (Int32 × MS) := if md_01 (s1) = true then (if ((va_up S.1 20 (s1), S.2).1 20) = (0) then (if md_in ((x3) + (Int32.ofInt 1)) (md_len 13) = true then ((fn_Md_term N (va_up S.1 20 (s1), S.2)).bind fun r1 => if md_in (((x3) + (Int32.ofInt 1)) + ((va_up S.1 20 (s1), S.2).2 13 ((x3) + (Int32.ofInt 1)).toNatClampNeg)) (md_len 13) = true then (fn_Md_readAtom_178 N k105 (x3) (r1.2.1, va_up r1.2.2 13 (upd (r1.2.2 13) (((x3) + (Int32.ofInt 1)) + ((va_up S.1 20 (s1), S.2).2 13 ((x3) + (Int32.ofInt 1)).toNatClampNeg)).toNatClampNeg (r1.1)))) else none) else none) else (fn_Md_readAtom_178 N k105 (x3) (va_up S.1 20 (s1), S.2))) else none
def fn_Md_readAtom_105 (N : Nat) : Nat → Int32 → Int32 → MS → Option (Int32 × MS)
  | 0, _, _, _ => none
  | n + 1, x3, x4, S => if (x4) = (0) then (fn_Md_readAtom_204 N  S) else (if (S.1 20) = (0) then (if md_in ((x3) + (Int32.ofInt 1)) (md_len 13) = true then (if md_in ((x3) + (Int32.ofInt 1)) (md_len 13) = true then (if md_in ((x3) + (Int32.ofInt 1)) (md_len 13) = true then (if ((S.1, va_up S.2 13 (upd (S.2 13) ((x3) + (Int32.ofInt 1)).toNatClampNeg ((S.2 13 ((x3) + (Int32.ofInt 1)).toNatClampNeg) + (Int32.ofInt 1)))).2 13 ((x3) + (Int32.ofInt 1)).toNatClampNeg) ≤ (Int32.ofInt 2) then (fn_Md_readAtom_147 N (fn_Md_readAtom_105 N n) (x3) (Int32.ofInt 0) (S.1, va_up S.2 13 (upd (S.2 13) ((x3) + (Int32.ofInt 1)).toNatClampNeg ((S.2 13 ((x3) + (Int32.ofInt 1)).toNatClampNeg) + (Int32.ofInt 1))))) else (fn_Md_readAtom_147 N (fn_Md_readAtom_105 N n) (x3) (Int32.ofInt 1) (S.1, va_up S.2 13 (upd (S.2 13) ((x3) + (Int32.ofInt 1)).toNatClampNeg ((S.2 13 ((x3) + (Int32.ofInt 1)).toNatClampNeg) + (Int32.ofInt 1)))))) else none) else none) else none) else (fn_Md_readAtom_204 N  S))
theorem fe_Md_readAtom_105 (N : Nat) (n : Nat) (x3 : Int32) (x4 : Int32) (S : MS) : fn_Md_readAtom_105 N (n + 1) x3 x4 S = (if (x4) = (0) then (fn_Md_readAtom_204 N  S) else (if (S.1 20) = (0) then (if md_in ((x3) + (Int32.ofInt 1)) (md_len 13) = true then (if md_in ((x3) + (Int32.ofInt 1)) (md_len 13) = true then (if md_in ((x3) + (Int32.ofInt 1)) (md_len 13) = true then (if ((S.1, va_up S.2 13 (upd (S.2 13) ((x3) + (Int32.ofInt 1)).toNatClampNeg ((S.2 13 ((x3) + (Int32.ofInt 1)).toNatClampNeg) + (Int32.ofInt 1)))).2 13 ((x3) + (Int32.ofInt 1)).toNatClampNeg) ≤ (Int32.ofInt 2) then (fn_Md_readAtom_147 N (fn_Md_readAtom_105 N n) (x3) (Int32.ofInt 0) (S.1, va_up S.2 13 (upd (S.2 13) ((x3) + (Int32.ofInt 1)).toNatClampNeg ((S.2 13 ((x3) + (Int32.ofInt 1)).toNatClampNeg) + (Int32.ofInt 1))))) else (fn_Md_readAtom_147 N (fn_Md_readAtom_105 N n) (x3) (Int32.ofInt 1) (S.1, va_up S.2 13 (upd (S.2 13) ((x3) + (Int32.ofInt 1)).toNatClampNeg ((S.2 13 ((x3) + (Int32.ofInt 1)).toNatClampNeg) + (Int32.ofInt 1)))))) else none) else none) else none) else (fn_Md_readAtom_204 N  S))) := rfl
def fn_Md_readAtom_35 (N : Nat) (x2 : Int32) (x3 : Int32) (s1 : Int32) (S : MS) : Option (Int32 × MS) := if md_01 (s1) = true then (if md_in (x3) (md_len 13) = true then (if md_in ((x3) + (Int32.ofInt 1)) (md_len 13) = true then (if md_in ((x3) + (Int32.ofInt 2)) (md_len 13) = true then (if md_in ((x3) + (Int32.ofInt 3)) (md_len 13) = true then (if ((((((va_up (va_up S.1 20 (s1), S.2).1 16 (((va_up S.1 20 (s1), S.2).1 16) + (Int32.ofInt 1)), (va_up S.1 20 (s1), S.2).2).1, va_up (va_up (va_up S.1 20 (s1), S.2).1 16 (((va_up S.1 20 (s1), S.2).1 16) + (Int32.ofInt 1)), (va_up S.1 20 (s1), S.2).2).2 13 (upd ((va_up (va_up S.1 20 (s1), S.2).1 16 (((va_up S.1 20 (s1), S.2).1 16) + (Int32.ofInt 1)), (va_up S.1 20 (s1), S.2).2).2 13) (x3).toNatClampNeg ((x2) - ((Int8.ofInt (97)).toInt32)))).1, va_up ((va_up (va_up S.1 20 (s1), S.2).1 16 (((va_up S.1 20 (s1), S.2).1 16) + (Int32.ofInt 1)), (va_up S.1 20 (s1), S.2).2).1, va_up (va_up (va_up S.1 20 (s1), S.2).1 16 (((va_up S.1 20 (s1), S.2).1 16) + (Int32.ofInt 1)), (va_up S.1 20 (s1), S.2).2).2 13 (upd ((va_up (va_up S.1 20 (s1), S.2).1 16 (((va_up S.1 20 (s1), S.2).1 16) + (Int32.ofInt 1)), (va_up S.1 20 (s1), S.2).2).2 13) (x3).toNatClampNeg ((x2) - ((Int8.ofInt (97)).toInt32)))).2 13 (upd (((va_up (va_up S.1 20 (s1), S.2).1 16 (((va_up S.1 20 (s1), S.2).1 16) + (Int32.ofInt 1)), (va_up S.1 20 (s1), S.2).2).1, va_up (va_up (va_up S.1 20 (s1), S.2).1 16 (((va_up S.1 20 (s1), S.2).1 16) + (Int32.ofInt 1)), (va_up S.1 20 (s1), S.2).2).2 13 (upd ((va_up (va_up S.1 20 (s1), S.2).1 16 (((va_up S.1 20 (s1), S.2).1 16) + (Int32.ofInt 1)), (va_up S.1 20 (s1), S.2).2).2 13) (x3).toNatClampNeg ((x2) - ((Int8.ofInt (97)).toInt32)))).2 13) ((x3) + (Int32.ofInt 1)).toNatClampNeg (Int32.ofInt 0))).1, va_up (((va_up (va_up S.1 20 (s1), S.2).1 16 (((va_up S.1 20 (s1), S.2).1 16) + (Int32.ofInt 1)), (va_up S.1 20 (s1), S.2).2).1, va_up (va_up (va_up S.1 20 (s1), S.2).1 16 (((va_up S.1 20 (s1), S.2).1 16) + (Int32.ofInt 1)), (va_up S.1 20 (s1), S.2).2).2 13 (upd ((va_up (va_up S.1 20 (s1), S.2).1 16 (((va_up S.1 20 (s1), S.2).1 16) + (Int32.ofInt 1)), (va_up S.1 20 (s1), S.2).2).2 13) (x3).toNatClampNeg ((x2) - ((Int8.ofInt (97)).toInt32)))).1, va_up ((va_up (va_up S.1 20 (s1), S.2).1 16 (((va_up S.1 20 (s1), S.2).1 16) + (Int32.ofInt 1)), (va_up S.1 20 (s1), S.2).2).1, va_up (va_up (va_up S.1 20 (s1), S.2).1 16 (((va_up S.1 20 (s1), S.2).1 16) + (Int32.ofInt 1)), (va_up S.1 20 (s1), S.2).2).2 13 (upd ((va_up (va_up S.1 20 (s1), S.2).1 16 (((va_up S.1 20 (s1), S.2).1 16) + (Int32.ofInt 1)), (va_up S.1 20 (s1), S.2).2).2 13) (x3).toNatClampNeg ((x2) - ((Int8.ofInt (97)).toInt32)))).2 13 (upd (((va_up (va_up S.1 20 (s1), S.2).1 16 (((va_up S.1 20 (s1), S.2).1 16) + (Int32.ofInt 1)), (va_up S.1 20 (s1), S.2).2).1, va_up (va_up (va_up S.1 20 (s1), S.2).1 16 (((va_up S.1 20 (s1), S.2).1 16) + (Int32.ofInt 1)), (va_up S.1 20 (s1), S.2).2).2 13 (upd ((va_up (va_up S.1 20 (s1), S.2).1 16 (((va_up S.1 20 (s1), S.2).1 16) + (Int32.ofInt 1)), (va_up S.1 20 (s1), S.2).2).2 13) (x3).toNatClampNeg ((x2) - ((Int8.ofInt (97)).toInt32)))).2 13) ((x3) + (Int32.ofInt 1)).toNatClampNeg (Int32.ofInt 0))).2 13 (upd ((((va_up (va_up S.1 20 (s1), S.2).1 16 (((va_up S.1 20 (s1), S.2).1 16) + (Int32.ofInt 1)), (va_up S.1 20 (s1), S.2).2).1, va_up (va_up (va_up S.1 20 (s1), S.2).1 16 (((va_up S.1 20 (s1), S.2).1 16) + (Int32.ofInt 1)), (va_up S.1 20 (s1), S.2).2).2 13 (upd ((va_up (va_up S.1 20 (s1), S.2).1 16 (((va_up S.1 20 (s1), S.2).1 16) + (Int32.ofInt 1)), (va_up S.1 20 (s1), S.2).2).2 13) (x3).toNatClampNeg ((x2) - ((Int8.ofInt (97)).toInt32)))).1, va_up ((va_up (va_up S.1 20 (s1), S.2).1 16 (((va_up S.1 20 (s1), S.2).1 16) + (Int32.ofInt 1)), (va_up S.1 20 (s1), S.2).2).1, va_up (va_up (va_up S.1 20 (s1), S.2).1 16 (((va_up S.1 20 (s1), S.2).1 16) + (Int32.ofInt 1)), (va_up S.1 20 (s1), S.2).2).2 13 (upd ((va_up (va_up S.1 20 (s1), S.2).1 16 (((va_up S.1 20 (s1), S.2).1 16) + (Int32.ofInt 1)), (va_up S.1 20 (s1), S.2).2).2 13) (x3).toNatClampNeg ((x2) - ((Int8.ofInt (97)).toInt32)))).2 13 (upd (((va_up (va_up S.1 20 (s1), S.2).1 16 (((va_up S.1 20 (s1), S.2).1 16) + (Int32.ofInt 1)), (va_up S.1 20 (s1), S.2).2).1, va_up (va_up (va_up S.1 20 (s1), S.2).1 16 (((va_up S.1 20 (s1), S.2).1 16) + (Int32.ofInt 1)), (va_up S.1 20 (s1), S.2).2).2 13 (upd ((va_up (va_up S.1 20 (s1), S.2).1 16 (((va_up S.1 20 (s1), S.2).1 16) + (Int32.ofInt 1)), (va_up S.1 20 (s1), S.2).2).2 13) (x3).toNatClampNeg ((x2) - ((Int8.ofInt (97)).toInt32)))).2 13) ((x3) + (Int32.ofInt 1)).toNatClampNeg (Int32.ofInt 0))).2 13) ((x3) + (Int32.ofInt 2)).toNatClampNeg (Int32.ofInt 0))).1, va_up ((((va_up (va_up S.1 20 (s1), S.2).1 16 (((va_up S.1 20 (s1), S.2).1 16) + (Int32.ofInt 1)), (va_up S.1 20 (s1), S.2).2).1, va_up (va_up (va_up S.1 20 (s1), S.2).1 16 (((va_up S.1 20 (s1), S.2).1 16) + (Int32.ofInt 1)), (va_up S.1 20 (s1), S.2).2).2 13 (upd ((va_up (va_up S.1 20 (s1), S.2).1 16 (((va_up S.1 20 (s1), S.2).1 16) + (Int32.ofInt 1)), (va_up S.1 20 (s1), S.2).2).2 13) (x3).toNatClampNeg ((x2) - ((Int8.ofInt (97)).toInt32)))).1, va_up ((va_up (va_up S.1 20 (s1), S.2).1 16 (((va_up S.1 20 (s1), S.2).1 16) + (Int32.ofInt 1)), (va_up S.1 20 (s1), S.2).2).1, va_up (va_up (va_up S.1 20 (s1), S.2).1 16 (((va_up S.1 20 (s1), S.2).1 16) + (Int32.ofInt 1)), (va_up S.1 20 (s1), S.2).2).2 13 (upd ((va_up (va_up S.1 20 (s1), S.2).1 16 (((va_up S.1 20 (s1), S.2).1 16) + (Int32.ofInt 1)), (va_up S.1 20 (s1), S.2).2).2 13) (x3).toNatClampNeg ((x2) - ((Int8.ofInt (97)).toInt32)))).2 13 (upd (((va_up (va_up S.1 20 (s1), S.2).1 16 (((va_up S.1 20 (s1), S.2).1 16) + (Int32.ofInt 1)), (va_up S.1 20 (s1), S.2).2).1, va_up (va_up (va_up S.1 20 (s1), S.2).1 16 (((va_up S.1 20 (s1), S.2).1 16) + (Int32.ofInt 1)), (va_up S.1 20 (s1), S.2).2).2 13 (upd ((va_up (va_up S.1 20 (s1), S.2).1 16 (((va_up S.1 20 (s1), S.2).1 16) + (Int32.ofInt 1)), (va_up S.1 20 (s1), S.2).2).2 13) (x3).toNatClampNeg ((x2) - ((Int8.ofInt (97)).toInt32)))).2 13) ((x3) + (Int32.ofInt 1)).toNatClampNeg (Int32.ofInt 0))).1, va_up (((va_up (va_up S.1 20 (s1), S.2).1 16 (((va_up S.1 20 (s1), S.2).1 16) + (Int32.ofInt 1)), (va_up S.1 20 (s1), S.2).2).1, va_up (va_up (va_up S.1 20 (s1), S.2).1 16 (((va_up S.1 20 (s1), S.2).1 16) + (Int32.ofInt 1)), (va_up S.1 20 (s1), S.2).2).2 13 (upd ((va_up (va_up S.1 20 (s1), S.2).1 16 (((va_up S.1 20 (s1), S.2).1 16) + (Int32.ofInt 1)), (va_up S.1 20 (s1), S.2).2).2 13) (x3).toNatClampNeg ((x2) - ((Int8.ofInt (97)).toInt32)))).1, va_up ((va_up (va_up S.1 20 (s1), S.2).1 16 (((va_up S.1 20 (s1), S.2).1 16) + (Int32.ofInt 1)), (va_up S.1 20 (s1), S.2).2).1, va_up (va_up (va_up S.1 20 (s1), S.2).1 16 (((va_up S.1 20 (s1), S.2).1 16) + (Int32.ofInt 1)), (va_up S.1 20 (s1), S.2).2).2 13 (upd ((va_up (va_up S.1 20 (s1), S.2).1 16 (((va_up S.1 20 (s1), S.2).1 16) + (Int32.ofInt 1)), (va_up S.1 20 (s1), S.2).2).2 13) (x3).toNatClampNeg ((x2) - ((Int8.ofInt (97)).toInt32)))).2 13 (upd (((va_up (va_up S.1 20 (s1), S.2).1 16 (((va_up S.1 20 (s1), S.2).1 16) + (Int32.ofInt 1)), (va_up S.1 20 (s1), S.2).2).1, va_up (va_up (va_up S.1 20 (s1), S.2).1 16 (((va_up S.1 20 (s1), S.2).1 16) + (Int32.ofInt 1)), (va_up S.1 20 (s1), S.2).2).2 13 (upd ((va_up (va_up S.1 20 (s1), S.2).1 16 (((va_up S.1 20 (s1), S.2).1 16) + (Int32.ofInt 1)), (va_up S.1 20 (s1), S.2).2).2 13) (x3).toNatClampNeg ((x2) - ((Int8.ofInt (97)).toInt32)))).2 13) ((x3) + (Int32.ofInt 1)).toNatClampNeg (Int32.ofInt 0))).2 13 (upd ((((va_up (va_up S.1 20 (s1), S.2).1 16 (((va_up S.1 20 (s1), S.2).1 16) + (Int32.ofInt 1)), (va_up S.1 20 (s1), S.2).2).1, va_up (va_up (va_up S.1 20 (s1), S.2).1 16 (((va_up S.1 20 (s1), S.2).1 16) + (Int32.ofInt 1)), (va_up S.1 20 (s1), S.2).2).2 13 (upd ((va_up (va_up S.1 20 (s1), S.2).1 16 (((va_up S.1 20 (s1), S.2).1 16) + (Int32.ofInt 1)), (va_up S.1 20 (s1), S.2).2).2 13) (x3).toNatClampNeg ((x2) - ((Int8.ofInt (97)).toInt32)))).1, va_up ((va_up (va_up S.1 20 (s1), S.2).1 16 (((va_up S.1 20 (s1), S.2).1 16) + (Int32.ofInt 1)), (va_up S.1 20 (s1), S.2).2).1, va_up (va_up (va_up S.1 20 (s1), S.2).1 16 (((va_up S.1 20 (s1), S.2).1 16) + (Int32.ofInt 1)), (va_up S.1 20 (s1), S.2).2).2 13 (upd ((va_up (va_up S.1 20 (s1), S.2).1 16 (((va_up S.1 20 (s1), S.2).1 16) + (Int32.ofInt 1)), (va_up S.1 20 (s1), S.2).2).2 13) (x3).toNatClampNeg ((x2) - ((Int8.ofInt (97)).toInt32)))).2 13 (upd (((va_up (va_up S.1 20 (s1), S.2).1 16 (((va_up S.1 20 (s1), S.2).1 16) + (Int32.ofInt 1)), (va_up S.1 20 (s1), S.2).2).1, va_up (va_up (va_up S.1 20 (s1), S.2).1 16 (((va_up S.1 20 (s1), S.2).1 16) + (Int32.ofInt 1)), (va_up S.1 20 (s1), S.2).2).2 13 (upd ((va_up (va_up S.1 20 (s1), S.2).1 16 (((va_up S.1 20 (s1), S.2).1 16) + (Int32.ofInt 1)), (va_up S.1 20 (s1), S.2).2).2 13) (x3).toNatClampNeg ((x2) - ((Int8.ofInt (97)).toInt32)))).2 13) ((x3) + (Int32.ofInt 1)).toNatClampNeg (Int32.ofInt 0))).2 13) ((x3) + (Int32.ofInt 2)).toNatClampNeg (Int32.ofInt 0))).2 13 (upd (((((va_up (va_up S.1 20 (s1), S.2).1 16 (((va_up S.1 20 (s1), S.2).1 16) + (Int32.ofInt 1)), (va_up S.1 20 (s1), S.2).2).1, va_up (va_up (va_up S.1 20 (s1), S.2).1 16 (((va_up S.1 20 (s1), S.2).1 16) + (Int32.ofInt 1)), (va_up S.1 20 (s1), S.2).2).2 13 (upd ((va_up (va_up S.1 20 (s1), S.2).1 16 (((va_up S.1 20 (s1), S.2).1 16) + (Int32.ofInt 1)), (va_up S.1 20 (s1), S.2).2).2 13) (x3).toNatClampNeg ((x2) - ((Int8.ofInt (97)).toInt32)))).1, va_up ((va_up (va_up S.1 20 (s1), S.2).1 16 (((va_up S.1 20 (s1), S.2).1 16) + (Int32.ofInt 1)), (va_up S.1 20 (s1), S.2).2).1, va_up (va_up (va_up S.1 20 (s1), S.2).1 16 (((va_up S.1 20 (s1), S.2).1 16) + (Int32.ofInt 1)), (va_up S.1 20 (s1), S.2).2).2 13 (upd ((va_up (va_up S.1 20 (s1), S.2).1 16 (((va_up S.1 20 (s1), S.2).1 16) + (Int32.ofInt 1)), (va_up S.1 20 (s1), S.2).2).2 13) (x3).toNatClampNeg ((x2) - ((Int8.ofInt (97)).toInt32)))).2 13 (upd (((va_up (va_up S.1 20 (s1), S.2).1 16 (((va_up S.1 20 (s1), S.2).1 16) + (Int32.ofInt 1)), (va_up S.1 20 (s1), S.2).2).1, va_up (va_up (va_up S.1 20 (s1), S.2).1 16 (((va_up S.1 20 (s1), S.2).1 16) + (Int32.ofInt 1)), (va_up S.1 20 (s1), S.2).2).2 13 (upd ((va_up (va_up S.1 20 (s1), S.2).1 16 (((va_up S.1 20 (s1), S.2).1 16) + (Int32.ofInt 1)), (va_up S.1 20 (s1), S.2).2).2 13) (x3).toNatClampNeg ((x2) - ((Int8.ofInt (97)).toInt32)))).2 13) ((x3) + (Int32.ofInt 1)).toNatClampNeg (Int32.ofInt 0))).1, va_up (((va_up (va_up S.1 20 (s1), S.2).1 16 (((va_up S.1 20 (s1), S.2).1 16) + (Int32.ofInt 1)), (va_up S.1 20 (s1), S.2).2).1, va_up (va_up (va_up S.1 20 (s1), S.2).1 16 (((va_up S.1 20 (s1), S.2).1 16) + (Int32.ofInt 1)), (va_up S.1 20 (s1), S.2).2).2 13 (upd ((va_up (va_up S.1 20 (s1), S.2).1 16 (((va_up S.1 20 (s1), S.2).1 16) + (Int32.ofInt 1)), (va_up S.1 20 (s1), S.2).2).2 13) (x3).toNatClampNeg ((x2) - ((Int8.ofInt (97)).toInt32)))).1, va_up ((va_up (va_up S.1 20 (s1), S.2).1 16 (((va_up S.1 20 (s1), S.2).1 16) + (Int32.ofInt 1)), (va_up S.1 20 (s1), S.2).2).1, va_up (va_up (va_up S.1 20 (s1), S.2).1 16 (((va_up S.1 20 (s1), S.2).1 16) + (Int32.ofInt 1)), (va_up S.1 20 (s1), S.2).2).2 13 (upd ((va_up (va_up S.1 20 (s1), S.2).1 16 (((va_up S.1 20 (s1), S.2).1 16) + (Int32.ofInt 1)), (va_up S.1 20 (s1), S.2).2).2 13) (x3).toNatClampNeg ((x2) - ((Int8.ofInt (97)).toInt32)))).2 13 (upd (((va_up (va_up S.1 20 (s1), S.2).1 16 (((va_up S.1 20 (s1), S.2).1 16) + (Int32.ofInt 1)), (va_up S.1 20 (s1), S.2).2).1, va_up (va_up (va_up S.1 20 (s1), S.2).1 16 (((va_up S.1 20 (s1), S.2).1 16) + (Int32.ofInt 1)), (va_up S.1 20 (s1), S.2).2).2 13 (upd ((va_up (va_up S.1 20 (s1), S.2).1 16 (((va_up S.1 20 (s1), S.2).1 16) + (Int32.ofInt 1)), (va_up S.1 20 (s1), S.2).2).2 13) (x3).toNatClampNeg ((x2) - ((Int8.ofInt (97)).toInt32)))).2 13) ((x3) + (Int32.ofInt 1)).toNatClampNeg (Int32.ofInt 0))).2 13 (upd ((((va_up (va_up S.1 20 (s1), S.2).1 16 (((va_up S.1 20 (s1), S.2).1 16) + (Int32.ofInt 1)), (va_up S.1 20 (s1), S.2).2).1, va_up (va_up (va_up S.1 20 (s1), S.2).1 16 (((va_up S.1 20 (s1), S.2).1 16) + (Int32.ofInt 1)), (va_up S.1 20 (s1), S.2).2).2 13 (upd ((va_up (va_up S.1 20 (s1), S.2).1 16 (((va_up S.1 20 (s1), S.2).1 16) + (Int32.ofInt 1)), (va_up S.1 20 (s1), S.2).2).2 13) (x3).toNatClampNeg ((x2) - ((Int8.ofInt (97)).toInt32)))).1, va_up ((va_up (va_up S.1 20 (s1), S.2).1 16 (((va_up S.1 20 (s1), S.2).1 16) + (Int32.ofInt 1)), (va_up S.1 20 (s1), S.2).2).1, va_up (va_up (va_up S.1 20 (s1), S.2).1 16 (((va_up S.1 20 (s1), S.2).1 16) + (Int32.ofInt 1)), (va_up S.1 20 (s1), S.2).2).2 13 (upd ((va_up (va_up S.1 20 (s1), S.2).1 16 (((va_up S.1 20 (s1), S.2).1 16) + (Int32.ofInt 1)), (va_up S.1 20 (s1), S.2).2).2 13) (x3).toNatClampNeg ((x2) - ((Int8.ofInt (97)).toInt32)))).2 13 (upd (((va_up (va_up S.1 20 (s1), S.2).1 16 (((va_up S.1 20 (s1), S.2).1 16) + (Int32.ofInt 1)), (va_up S.1 20 (s1), S.2).2).1, va_up (va_up (va_up S.1 20 (s1), S.2).1 16 (((va_up S.1 20 (s1), S.2).1 16) + (Int32.ofInt 1)), (va_up S.1 20 (s1), S.2).2).2 13 (upd ((va_up (va_up S.1 20 (s1), S.2).1 16 (((va_up S.1 20 (s1), S.2).1 16) + (Int32.ofInt 1)), (va_up S.1 20 (s1), S.2).2).2 13) (x3).toNatClampNeg ((x2) - ((Int8.ofInt (97)).toInt32)))).2 13) ((x3) + (Int32.ofInt 1)).toNatClampNeg (Int32.ofInt 0))).2 13) ((x3) + (Int32.ofInt 2)).toNatClampNeg (Int32.ofInt 0))).2 13) ((x3) + (Int32.ofInt 3)).toNatClampNeg (Int32.ofInt 0))).1 20) = (0) then ((fn_Md_next N ((Int8.ofInt (40)).toInt32) (((((va_up (va_up S.1 20 (s1), S.2).1 16 (((va_up S.1 20 (s1), S.2).1 16) + (Int32.ofInt 1)), (va_up S.1 20 (s1), S.2).2).1, va_up (va_up (va_up S.1 20 (s1), S.2).1 16 (((va_up S.1 20 (s1), S.2).1 16) + (Int32.ofInt 1)), (va_up S.1 20 (s1), S.2).2).2 13 (upd ((va_up (va_up S.1 20 (s1), S.2).1 16 (((va_up S.1 20 (s1), S.2).1 16) + (Int32.ofInt 1)), (va_up S.1 20 (s1), S.2).2).2 13) (x3).toNatClampNeg ((x2) - ((Int8.ofInt (97)).toInt32)))).1, va_up ((va_up (va_up S.1 20 (s1), S.2).1 16 (((va_up S.1 20 (s1), S.2).1 16) + (Int32.ofInt 1)), (va_up S.1 20 (s1), S.2).2).1, va_up (va_up (va_up S.1 20 (s1), S.2).1 16 (((va_up S.1 20 (s1), S.2).1 16) + (Int32.ofInt 1)), (va_up S.1 20 (s1), S.2).2).2 13 (upd ((va_up (va_up S.1 20 (s1), S.2).1 16 (((va_up S.1 20 (s1), S.2).1 16) + (Int32.ofInt 1)), (va_up S.1 20 (s1), S.2).2).2 13) (x3).toNatClampNeg ((x2) - ((Int8.ofInt (97)).toInt32)))).2 13 (upd (((va_up (va_up S.1 20 (s1), S.2).1 16 (((va_up S.1 20 (s1), S.2).1 16) + (Int32.ofInt 1)), (va_up S.1 20 (s1), S.2).2).1, va_up (va_up (va_up S.1 20 (s1), S.2).1 16 (((va_up S.1 20 (s1), S.2).1 16) + (Int32.ofInt 1)), (va_up S.1 20 (s1), S.2).2).2 13 (upd ((va_up (va_up S.1 20 (s1), S.2).1 16 (((va_up S.1 20 (s1), S.2).1 16) + (Int32.ofInt 1)), (va_up S.1 20 (s1), S.2).2).2 13) (x3).toNatClampNeg ((x2) - ((Int8.ofInt (97)).toInt32)))).2 13) ((x3) + (Int32.ofInt 1)).toNatClampNeg (Int32.ofInt 0))).1, va_up (((va_up (va_up S.1 20 (s1), S.2).1 16 (((va_up S.1 20 (s1), S.2).1 16) + (Int32.ofInt 1)), (va_up S.1 20 (s1), S.2).2).1, va_up (va_up (va_up S.1 20 (s1), S.2).1 16 (((va_up S.1 20 (s1), S.2).1 16) + (Int32.ofInt 1)), (va_up S.1 20 (s1), S.2).2).2 13 (upd ((va_up (va_up S.1 20 (s1), S.2).1 16 (((va_up S.1 20 (s1), S.2).1 16) + (Int32.ofInt 1)), (va_up S.1 20 (s1), S.2).2).2 13) (x3).toNatClampNeg ((x2) - ((Int8.ofInt (97)).toInt32)))).1, va_up ((va_up (va_up S.1 20 (s1), S.2).1 16 (((va_up S.1 20 (s1), S.2).1 16) + (Int32.ofInt 1)), (va_up S.1 20 (s1), S.2).2).1, va_up (va_up (va_up S.1 20 (s1), S.2).1 16 (((va_up S.1 20 (s1), S.2).1 16) + (Int32.ofInt 1)), (va_up S.1 20 (s1), S.2).2).2 13 (upd ((va_up (va_up S.1 20 (s1), S.2).1 16 (((va_up S.1 20 (s1), S.2).1 16) + (Int32.ofInt 1)), (va_up S.1 20 (s1), S.2).2).2 13) (x3).toNatClampNeg ((x2) - ((Int8.ofInt (97)).toInt32)))).2 13 (upd (((va_up (va_up S.1 20 (s1), S.2).1 16 (((va_up S.1 20 (s1), S.2).1 16) + (Int32.ofInt 1)), (va_up S.1 20 (s1), S.2).2).1, va_up (va_up (va_up S.1 20 (s1), S.2).1 16 (((va_up S.1 20 (s1), S.2).1 16) + (Int32.ofInt 1)), (va_up S.1 20 (s1), S.2).2).2 13 (upd ((va_up (va_up S.1 20 (s1), S.2).1 16 (((va_up S.1 20 (s1), S.2).1 16) + (Int32.ofInt 1)), (va_up S.1 20 (s1), S.2).2).2 13) (x3).toNatClampNeg ((x2) - ((Int8.ofInt (97)).toInt32)))).2 13) ((x3) + (Int32.ofInt 1)).toNatClampNeg (Int32.ofInt 0))).2 13 (upd ((((va_up (va_up S.1 20 (s1), S.2).1 16 (((va_up S.1 20 (s1), S.2).1 16) + (Int32.ofInt 1)), (va_up S.1 20 (s1), S.2).2).1, va_up (va_up (va_up S.1 20 (s1), S.2).1 16 (((va_up S.1 20 (s1), S.2).1 16) + (Int32.ofInt 1)), (va_up S.1 20 (s1), S.2).2).2 13 (upd ((va_up (va_up S.1 20 (s1), S.2).1 16 (((va_up S.1 20 (s1), S.2).1 16) + (Int32.ofInt 1)), (va_up S.1 20 (s1), S.2).2).2 13) (x3).toNatClampNeg ((x2) - ((Int8.ofInt (97)).toInt32)))).1, va_up ((va_up (va_up S.1 20 (s1), S.2).1 16 (((va_up S.1 20 (s1), S.2).1 16) + (Int32.ofInt 1)), (va_up S.1 20 (s1), S.2).2).1, va_up (va_up (va_up S.1 20 (s1), S.2).1 16 (((va_up S.1 20 (s1), S.2).1 16) + (Int32.ofInt 1)), (va_up S.1 20 (s1), S.2).2).2 13 (upd ((va_up (va_up S.1 20 (s1), S.2).1 16 (((va_up S.1 20 (s1), S.2).1 16) + (Int32.ofInt 1)), (va_up S.1 20 (s1), S.2).2).2 13) (x3).toNatClampNeg ((x2) - ((Int8.ofInt (97)).toInt32)))).2 13 (upd (((va_up (va_up S.1 20 (s1), S.2).1 16 (((va_up S.1 20 (s1), S.2).1 16) + (Int32.ofInt 1)), (va_up S.1 20 (s1), S.2).2).1, va_up (va_up (va_up S.1 20 (s1), S.2).1 16 (((va_up S.1 20 (s1), S.2).1 16) + (Int32.ofInt 1)), (va_up S.1 20 (s1), S.2).2).2 13 (upd ((va_up (va_up S.1 20 (s1), S.2).1 16 (((va_up S.1 20 (s1), S.2).1 16) + (Int32.ofInt 1)), (va_up S.1 20 (s1), S.2).2).2 13) (x3).toNatClampNeg ((x2) - ((Int8.ofInt (97)).toInt32)))).2 13) ((x3) + (Int32.ofInt 1)).toNatClampNeg (Int32.ofInt 0))).2 13) ((x3) + (Int32.ofInt 2)).toNatClampNeg (Int32.ofInt 0))).1, va_up ((((va_up (va_up S.1 20 (s1), S.2).1 16 (((va_up S.1 20 (s1), S.2).1 16) + (Int32.ofInt 1)), (va_up S.1 20 (s1), S.2).2).1, va_up (va_up (va_up S.1 20 (s1), S.2).1 16 (((va_up S.1 20 (s1), S.2).1 16) + (Int32.ofInt 1)), (va_up S.1 20 (s1), S.2).2).2 13 (upd ((va_up (va_up S.1 20 (s1), S.2).1 16 (((va_up S.1 20 (s1), S.2).1 16) + (Int32.ofInt 1)), (va_up S.1 20 (s1), S.2).2).2 13) (x3).toNatClampNeg ((x2) - ((Int8.ofInt (97)).toInt32)))).1, va_up ((va_up (va_up S.1 20 (s1), S.2).1 16 (((va_up S.1 20 (s1), S.2).1 16) + (Int32.ofInt 1)), (va_up S.1 20 (s1), S.2).2).1, va_up (va_up (va_up S.1 20 (s1), S.2).1 16 (((va_up S.1 20 (s1), S.2).1 16) + (Int32.ofInt 1)), (va_up S.1 20 (s1), S.2).2).2 13 (upd ((va_up (va_up S.1 20 (s1), S.2).1 16 (((va_up S.1 20 (s1), S.2).1 16) + (Int32.ofInt 1)), (va_up S.1 20 (s1), S.2).2).2 13) (x3).toNatClampNeg ((x2) - ((Int8.ofInt (97)).toInt32)))).2 13 (upd (((va_up (va_up S.1 20 (s1), S.2).1 16 (((va_up S.1 20 (s1), S.2).1 16) + (Int32.ofInt 1)), (va_up S.1 20 (s1), S.2).2).1, va_up (va_up (va_up S.1 20 (s1), S.2).1 16 (((va_up S.1 20 (s1), S.2).1 16) + (Int32.ofInt 1)), (va_up S.1 20 (s1), S.2).2).2 13 (upd ((va_up (va_up S.1 20 (s1), S.2).1 16 (((va_up S.1 20 (s1), S.2).1 16) + (Int32.ofInt 1)), (va_up S.1 20 (s1), S.2).2).2 13) (x3).toNatClampNeg ((x2) - ((Int8.ofInt (97)).toInt32)))).2 13) ((x3) + (Int32.ofInt 1)).toNatClampNeg (Int32.ofInt 0))).1, va_up (((va_up (va_up S.1 20 (s1), S.2).1 16 (((va_up S.1 20 (s1), S.2).1 16) + (Int32.ofInt 1)), (va_up S.1 20 (s1), S.2).2).1, va_up (va_up (va_up S.1 20 (s1), S.2).1 16 (((va_up S.1 20 (s1), S.2).1 16) + (Int32.ofInt 1)), (va_up S.1 20 (s1), S.2).2).2 13 (upd ((va_up (va_up S.1 20 (s1), S.2).1 16 (((va_up S.1 20 (s1), S.2).1 16) + (Int32.ofInt 1)), (va_up S.1 20 (s1), S.2).2).2 13) (x3).toNatClampNeg ((x2) - ((Int8.ofInt (97)).toInt32)))).1, va_up ((va_up (va_up S.1 20 (s1), S.2).1 16 (((va_up S.1 20 (s1), S.2).1 16) + (Int32.ofInt 1)), (va_up S.1 20 (s1), S.2).2).1, va_up (va_up (va_up S.1 20 (s1), S.2).1 16 (((va_up S.1 20 (s1), S.2).1 16) + (Int32.ofInt 1)), (va_up S.1 20 (s1), S.2).2).2 13 (upd ((va_up (va_up S.1 20 (s1), S.2).1 16 (((va_up S.1 20 (s1), S.2).1 16) + (Int32.ofInt 1)), (va_up S.1 20 (s1), S.2).2).2 13) (x3).toNatClampNeg ((x2) - ((Int8.ofInt (97)).toInt32)))).2 13 (upd (((va_up (va_up S.1 20 (s1), S.2).1 16 (((va_up S.1 20 (s1), S.2).1 16) + (Int32.ofInt 1)), (va_up S.1 20 (s1), S.2).2).1, va_up (va_up (va_up S.1 20 (s1), S.2).1 16 (((va_up S.1 20 (s1), S.2).1 16) + (Int32.ofInt 1)), (va_up S.1 20 (s1), S.2).2).2 13 (upd ((va_up (va_up S.1 20 (s1), S.2).1 16 (((va_up S.1 20 (s1), S.2).1 16) + (Int32.ofInt 1)), (va_up S.1 20 (s1), S.2).2).2 13) (x3).toNatClampNeg ((x2) - ((Int8.ofInt (97)).toInt32)))).2 13) ((x3) + (Int32.ofInt 1)).toNatClampNeg (Int32.ofInt 0))).2 13 (upd ((((va_up (va_up S.1 20 (s1), S.2).1 16 (((va_up S.1 20 (s1), S.2).1 16) + (Int32.ofInt 1)), (va_up S.1 20 (s1), S.2).2).1, va_up (va_up (va_up S.1 20 (s1), S.2).1 16 (((va_up S.1 20 (s1), S.2).1 16) + (Int32.ofInt 1)), (va_up S.1 20 (s1), S.2).2).2 13 (upd ((va_up (va_up S.1 20 (s1), S.2).1 16 (((va_up S.1 20 (s1), S.2).1 16) + (Int32.ofInt 1)), (va_up S.1 20 (s1), S.2).2).2 13) (x3).toNatClampNeg ((x2) - ((Int8.ofInt (97)).toInt32)))).1, va_up ((va_up (va_up S.1 20 (s1), S.2).1 16 (((va_up S.1 20 (s1), S.2).1 16) + (Int32.ofInt 1)), (va_up S.1 20 (s1), S.2).2).1, va_up (va_up (va_up S.1 20 (s1), S.2).1 16 (((va_up S.1 20 (s1), S.2).1 16) + (Int32.ofInt 1)), (va_up S.1 20 (s1), S.2).2).2 13 (upd ((va_up (va_up S.1 20 (s1), S.2).1 16 (((va_up S.1 20 (s1), S.2).1 16) + (Int32.ofInt 1)), (va_up S.1 20 (s1), S.2).2).2 13) (x3).toNatClampNeg ((x2) - ((Int8.ofInt (97)).toInt32)))).2 13 (upd (((va_up (va_up S.1 20 (s1), S.2).1 16 (((va_up S.1 20 (s1), S.2).1 16) + (Int32.ofInt 1)), (va_up S.1 20 (s1), S.2).2).1, va_up (va_up (va_up S.1 20 (s1), S.2).1 16 (((va_up S.1 20 (s1), S.2).1 16) + (Int32.ofInt 1)), (va_up S.1 20 (s1), S.2).2).2 13 (upd ((va_up (va_up S.1 20 (s1), S.2).1 16 (((va_up S.1 20 (s1), S.2).1 16) + (Int32.ofInt 1)), (va_up S.1 20 (s1), S.2).2).2 13) (x3).toNatClampNeg ((x2) - ((Int8.ofInt (97)).toInt32)))).2 13) ((x3) + (Int32.ofInt 1)).toNatClampNeg (Int32.ofInt 0))).2 13) ((x3) + (Int32.ofInt 2)).toNatClampNeg (Int32.ofInt 0))).2 13 (upd (((((va_up (va_up S.1 20 (s1), S.2).1 16 (((va_up S.1 20 (s1), S.2).1 16) + (Int32.ofInt 1)), (va_up S.1 20 (s1), S.2).2).1, va_up (va_up (va_up S.1 20 (s1), S.2).1 16 (((va_up S.1 20 (s1), S.2).1 16) + (Int32.ofInt 1)), (va_up S.1 20 (s1), S.2).2).2 13 (upd ((va_up (va_up S.1 20 (s1), S.2).1 16 (((va_up S.1 20 (s1), S.2).1 16) + (Int32.ofInt 1)), (va_up S.1 20 (s1), S.2).2).2 13) (x3).toNatClampNeg ((x2) - ((Int8.ofInt (97)).toInt32)))).1, va_up ((va_up (va_up S.1 20 (s1), S.2).1 16 (((va_up S.1 20 (s1), S.2).1 16) + (Int32.ofInt 1)), (va_up S.1 20 (s1), S.2).2).1, va_up (va_up (va_up S.1 20 (s1), S.2).1 16 (((va_up S.1 20 (s1), S.2).1 16) + (Int32.ofInt 1)), (va_up S.1 20 (s1), S.2).2).2 13 (upd ((va_up (va_up S.1 20 (s1), S.2).1 16 (((va_up S.1 20 (s1), S.2).1 16) + (Int32.ofInt 1)), (va_up S.1 20 (s1), S.2).2).2 13) (x3).toNatClampNeg ((x2) - ((Int8.ofInt (97)).toInt32)))).2 13 (upd (((va_up (va_up S.1 20 (s1), S.2).1 16 (((va_up S.1 20 (s1), S.2).1 16) + (Int32.ofInt 1)), (va_up S.1 20 (s1), S.2).2).1, va_up (va_up (va_up S.1 20 (s1), S.2).1 16 (((va_up S.1 20 (s1), S.2).1 16) + (Int32.ofInt 1)), (va_up S.1 20 (s1), S.2).2).2 13 (upd ((va_up (va_up S.1 20 (s1), S.2).1 16 (((va_up S.1 20 (s1), S.2).1 16) + (Int32.ofInt 1)), (va_up S.1 20 (s1), S.2).2).2 13) (x3).toNatClampNeg ((x2) - ((Int8.ofInt (97)).toInt32)))).2 13) ((x3) + (Int32.ofInt 1)).toNatClampNeg (Int32.ofInt 0))).1, va_up (((va_up (va_up S.1 20 (s1), S.2).1 16 (((va_up S.1 20 (s1), S.2).1 16) + (Int32.ofInt 1)), (va_up S.1 20 (s1), S.2).2).1, va_up (va_up (va_up S.1 20 (s1), S.2).1 16 (((va_up S.1 20 (s1), S.2).1 16) + (Int32.ofInt 1)), (va_up S.1 20 (s1), S.2).2).2 13 (upd ((va_up (va_up S.1 20 (s1), S.2).1 16 (((va_up S.1 20 (s1), S.2).1 16) + (Int32.ofInt 1)), (va_up S.1 20 (s1), S.2).2).2 13) (x3).toNatClampNeg ((x2) - ((Int8.ofInt (97)).toInt32)))).1, va_up ((va_up (va_up S.1 20 (s1), S.2).1 16 (((va_up S.1 20 (s1), S.2).1 16) + (Int32.ofInt 1)), (va_up S.1 20 (s1), S.2).2).1, va_up (va_up (va_up S.1 20 (s1), S.2).1 16 (((va_up S.1 20 (s1), S.2).1 16) + (Int32.ofInt 1)), (va_up S.1 20 (s1), S.2).2).2 13 (upd ((va_up (va_up S.1 20 (s1), S.2).1 16 (((va_up S.1 20 (s1), S.2).1 16) + (Int32.ofInt 1)), (va_up S.1 20 (s1), S.2).2).2 13) (x3).toNatClampNeg ((x2) - ((Int8.ofInt (97)).toInt32)))).2 13 (upd (((va_up (va_up S.1 20 (s1), S.2).1 16 (((va_up S.1 20 (s1), S.2).1 16) + (Int32.ofInt 1)), (va_up S.1 20 (s1), S.2).2).1, va_up (va_up (va_up S.1 20 (s1), S.2).1 16 (((va_up S.1 20 (s1), S.2).1 16) + (Int32.ofInt 1)), (va_up S.1 20 (s1), S.2).2).2 13 (upd ((va_up (va_up S.1 20 (s1), S.2).1 16 (((va_up S.1 20 (s1), S.2).1 16) + (Int32.ofInt 1)), (va_up S.1 20 (s1), S.2).2).2 13) (x3).toNatClampNeg ((x2) - ((Int8.ofInt (97)).toInt32)))).2 13) ((x3) + (Int32.ofInt 1)).toNatClampNeg (Int32.ofInt 0))).2 13 (upd ((((va_up (va_up S.1 20 (s1), S.2).1 16 (((va_up S.1 20 (s1), S.2).1 16) + (Int32.ofInt 1)), (va_up S.1 20 (s1), S.2).2).1, va_up (va_up (va_up S.1 20 (s1), S.2).1 16 (((va_up S.1 20 (s1), S.2).1 16) + (Int32.ofInt 1)), (va_up S.1 20 (s1), S.2).2).2 13 (upd ((va_up (va_up S.1 20 (s1), S.2).1 16 (((va_up S.1 20 (s1), S.2).1 16) + (Int32.ofInt 1)), (va_up S.1 20 (s1), S.2).2).2 13) (x3).toNatClampNeg ((x2) - ((Int8.ofInt (97)).toInt32)))).1, va_up ((va_up (va_up S.1 20 (s1), S.2).1 16 (((va_up S.1 20 (s1), S.2).1 16) + (Int32.ofInt 1)), (va_up S.1 20 (s1), S.2).2).1, va_up (va_up (va_up S.1 20 (s1), S.2).1 16 (((va_up S.1 20 (s1), S.2).1 16) + (Int32.ofInt 1)), (va_up S.1 20 (s1), S.2).2).2 13 (upd ((va_up (va_up S.1 20 (s1), S.2).1 16 (((va_up S.1 20 (s1), S.2).1 16) + (Int32.ofInt 1)), (va_up S.1 20 (s1), S.2).2).2 13) (x3).toNatClampNeg ((x2) - ((Int8.ofInt (97)).toInt32)))).2 13 (upd (((va_up (va_up S.1 20 (s1), S.2).1 16 (((va_up S.1 20 (s1), S.2).1 16) + (Int32.ofInt 1)), (va_up S.1 20 (s1), S.2).2).1, va_up (va_up (va_up S.1 20 (s1), S.2).1 16 (((va_up S.1 20 (s1), S.2).1 16) + (Int32.ofInt 1)), (va_up S.1 20 (s1), S.2).2).2 13 (upd ((va_up (va_up S.1 20 (s1), S.2).1 16 (((va_up S.1 20 (s1), S.2).1 16) + (Int32.ofInt 1)), (va_up S.1 20 (s1), S.2).2).2 13) (x3).toNatClampNeg ((x2) - ((Int8.ofInt (97)).toInt32)))).2 13) ((x3) + (Int32.ofInt 1)).toNatClampNeg (Int32.ofInt 0))).2 13) ((x3) + (Int32.ofInt 2)).toNatClampNeg (Int32.ofInt 0))).2 13) ((x3) + (Int32.ofInt 3)).toNatClampNeg (Int32.ofInt 0)))).bind fun r1 => if (r1.1) = (0) then (fn_Md_readAtom_101 N  r1.2) else (fn_Md_readAtom_105 N N (x3) (Int32.ofInt 1) r1.2)) else (fn_Md_readAtom_101 N  (((((va_up (va_up S.1 20 (s1), S.2).1 16 (((va_up S.1 20 (s1), S.2).1 16) + (Int32.ofInt 1)), (va_up S.1 20 (s1), S.2).2).1, va_up (va_up (va_up S.1 20 (s1), S.2).1 16 (((va_up S.1 20 (s1), S.2).1 16) + (Int32.ofInt 1)), (va_up S.1 20 (s1), S.2).2).2 13 (upd ((va_up (va_up S.1 20 (s1), S.2).1 16 (((va_up S.1 20 (s1), S.2).1 16) + (Int32.ofInt 1)), (va_up S.1 20 (s1), S.2).2).2 13) (x3).toNatClampNeg ((x2) - ((Int8.ofInt (97)).toInt32)))).1, va_up ((va_up (va_up S.1 20 (s1), S.2).1 16 (((va_up S.1 20 (s1), S.2).1 16) + (Int32.ofInt 1)), (va_up S.1 20 (s1), S.2).2).1, va_up (va_up (va_up S.1 20 (s1), S.2).1 16 (((va_up S.1 20 (s1), S.2).1 16) + (Int32.ofInt 1)), (va_up S.1 20 (s1), S.2).2).2 13 (upd ((va_up (va_up S.1 20 (s1), S.2).1 16 (((va_up S.1 20 (s1), S.2).1 16) + (Int32.ofInt 1)), (va_up S.1 20 (s1), S.2).2).2 13) (x3).toNatClampNeg ((x2) - ((Int8.ofInt (97)).toInt32)))).2 13 (upd (((va_up (va_up S.1 20 (s1), S.2).1 16 (((va_up S.1 20 (s1), S.2).1 16) + (Int32.ofInt 1)), (va_up S.1 20 (s1), S.2).2).1, va_up (va_up (va_up S.1 20 (s1), S.2).1 16 (((va_up S.1 20 (s1), S.2).1 16) + (Int32.ofInt 1)), (va_up S.1 20 (s1), S.2).2).2 13 (upd ((va_up (va_up S.1 20 (s1), S.2).1 16 (((va_up S.1 20 (s1), S.2).1 16) + (Int32.ofInt 1)), (va_up S.1 20 (s1), S.2).2).2 13) (x3).toNatClampNeg ((x2) - ((Int8.ofInt (97)).toInt32)))).2 13) ((x3) + (Int32.ofInt 1)).toNatClampNeg (Int32.ofInt 0))).1, va_up (((va_up (va_up S.1 20 (s1), S.2).1 16 (((va_up S.1 20 (s1), S.2).1 16) + (Int32.ofInt 1)), (va_up S.1 20 (s1), S.2).2).1, va_up (va_up (va_up S.1 20 (s1), S.2).1 16 (((va_up S.1 20 (s1), S.2).1 16) + (Int32.ofInt 1)), (va_up S.1 20 (s1), S.2).2).2 13 (upd ((va_up (va_up S.1 20 (s1), S.2).1 16 (((va_up S.1 20 (s1), S.2).1 16) + (Int32.ofInt 1)), (va_up S.1 20 (s1), S.2).2).2 13) (x3).toNatClampNeg ((x2) - ((Int8.ofInt (97)).toInt32)))).1, va_up ((va_up (va_up S.1 20 (s1), S.2).1 16 (((va_up S.1 20 (s1), S.2).1 16) + (Int32.ofInt 1)), (va_up S.1 20 (s1), S.2).2).1, va_up (va_up (va_up S.1 20 (s1), S.2).1 16 (((va_up S.1 20 (s1), S.2).1 16) + (Int32.ofInt 1)), (va_up S.1 20 (s1), S.2).2).2 13 (upd ((va_up (va_up S.1 20 (s1), S.2).1 16 (((va_up S.1 20 (s1), S.2).1 16) + (Int32.ofInt 1)), (va_up S.1 20 (s1), S.2).2).2 13) (x3).toNatClampNeg ((x2) - ((Int8.ofInt (97)).toInt32)))).2 13 (upd (((va_up (va_up S.1 20 (s1), S.2).1 16 (((va_up S.1 20 (s1), S.2).1 16) + (Int32.ofInt 1)), (va_up S.1 20 (s1), S.2).2).1, va_up (va_up (va_up S.1 20 (s1), S.2).1 16 (((va_up S.1 20 (s1), S.2).1 16) + (Int32.ofInt 1)), (va_up S.1 20 (s1), S.2).2).2 13 (upd ((va_up (va_up S.1 20 (s1), S.2).1 16 (((va_up S.1 20 (s1), S.2).1 16) + (Int32.ofInt 1)), (va_up S.1 20 (s1), S.2).2).2 13) (x3).toNatClampNeg ((x2) - ((Int8.ofInt (97)).toInt32)))).2 13) ((x3) + (Int32.ofInt 1)).toNatClampNeg (Int32.ofInt 0))).2 13 (upd ((((va_up (va_up S.1 20 (s1), S.2).1 16 (((va_up S.1 20 (s1), S.2).1 16) + (Int32.ofInt 1)), (va_up S.1 20 (s1), S.2).2).1, va_up (va_up (va_up S.1 20 (s1), S.2).1 16 (((va_up S.1 20 (s1), S.2).1 16) + (Int32.ofInt 1)), (va_up S.1 20 (s1), S.2).2).2 13 (upd ((va_up (va_up S.1 20 (s1), S.2).1 16 (((va_up S.1 20 (s1), S.2).1 16) + (Int32.ofInt 1)), (va_up S.1 20 (s1), S.2).2).2 13) (x3).toNatClampNeg ((x2) - ((Int8.ofInt (97)).toInt32)))).1, va_up ((va_up (va_up S.1 20 (s1), S.2).1 16 (((va_up S.1 20 (s1), S.2).1 16) + (Int32.ofInt 1)), (va_up S.1 20 (s1), S.2).2).1, va_up (va_up (va_up S.1 20 (s1), S.2).1 16 (((va_up S.1 20 (s1), S.2).1 16) + (Int32.ofInt 1)), (va_up S.1 20 (s1), S.2).2).2 13 (upd ((va_up (va_up S.1 20 (s1), S.2).1 16 (((va_up S.1 20 (s1), S.2).1 16) + (Int32.ofInt 1)), (va_up S.1 20 (s1), S.2).2).2 13) (x3).toNatClampNeg ((x2) - ((Int8.ofInt (97)).toInt32)))).2 13 (upd (((va_up (va_up S.1 20 (s1), S.2).1 16 (((va_up S.1 20 (s1), S.2).1 16) + (Int32.ofInt 1)), (va_up S.1 20 (s1), S.2).2).1, va_up (va_up (va_up S.1 20 (s1), S.2).1 16 (((va_up S.1 20 (s1), S.2).1 16) + (Int32.ofInt 1)), (va_up S.1 20 (s1), S.2).2).2 13 (upd ((va_up (va_up S.1 20 (s1), S.2).1 16 (((va_up S.1 20 (s1), S.2).1 16) + (Int32.ofInt 1)), (va_up S.1 20 (s1), S.2).2).2 13) (x3).toNatClampNeg ((x2) - ((Int8.ofInt (97)).toInt32)))).2 13) ((x3) + (Int32.ofInt 1)).toNatClampNeg (Int32.ofInt 0))).2 13) ((x3) + (Int32.ofInt 2)).toNatClampNeg (Int32.ofInt 0))).1, va_up ((((va_up (va_up S.1 20 (s1), S.2).1 16 (((va_up S.1 20 (s1), S.2).1 16) + (Int32.ofInt 1)), (va_up S.1 20 (s1), S.2).2).1, va_up (va_up (va_up S.1 20 (s1), S.2).1 16 (((va_up S.1 20 (s1), S.2).1 16) + (Int32.ofInt 1)), (va_up S.1 20 (s1), S.2).2).2 13 (upd ((va_up (va_up S.1 20 (s1), S.2).1 16 (((va_up S.1 20 (s1), S.2).1 16) + (Int32.ofInt 1)), (va_up S.1 20 (s1), S.2).2).2 13) (x3).toNatClampNeg ((x2) - ((Int8.ofInt (97)).toInt32)))).1, va_up ((va_up (va_up S.1 20 (s1), S.2).1 16 (((va_up S.1 20 (s1), S.2).1 16) + (Int32.ofInt 1)), (va_up S.1 20 (s1), S.2).2).1, va_up (va_up (va_up S.1 20 (s1), S.2).1 16 (((va_up S.1 20 (s1), S.2).1 16) + (Int32.ofInt 1)), (va_up S.1 20 (s1), S.2).2).2 13 (upd ((va_up (va_up S.1 20 (s1), S.2).1 16 (((va_up S.1 20 (s1), S.2).1 16) + (Int32.ofInt 1)), (va_up S.1 20 (s1), S.2).2).2 13) (x3).toNatClampNeg ((x2) - ((Int8.ofInt (97)).toInt32)))).2 13 (upd (((va_up (va_up S.1 20 (s1), S.2).1 16 (((va_up S.1 20 (s1), S.2).1 16) + (Int32.ofInt 1)), (va_up S.1 20 (s1), S.2).2).1, va_up (va_up (va_up S.1 20 (s1), S.2).1 16 (((va_up S.1 20 (s1), S.2).1 16) + (Int32.ofInt 1)), (va_up S.1 20 (s1), S.2).2).2 13 (upd ((va_up (va_up S.1 20 (s1), S.2).1 16 (((va_up S.1 20 (s1), S.2).1 16) + (Int32.ofInt 1)), (va_up S.1 20 (s1), S.2).2).2 13) (x3).toNatClampNeg ((x2) - ((Int8.ofInt (97)).toInt32)))).2 13) ((x3) + (Int32.ofInt 1)).toNatClampNeg (Int32.ofInt 0))).1, va_up (((va_up (va_up S.1 20 (s1), S.2).1 16 (((va_up S.1 20 (s1), S.2).1 16) + (Int32.ofInt 1)), (va_up S.1 20 (s1), S.2).2).1, va_up (va_up (va_up S.1 20 (s1), S.2).1 16 (((va_up S.1 20 (s1), S.2).1 16) + (Int32.ofInt 1)), (va_up S.1 20 (s1), S.2).2).2 13 (upd ((va_up (va_up S.1 20 (s1), S.2).1 16 (((va_up S.1 20 (s1), S.2).1 16) + (Int32.ofInt 1)), (va_up S.1 20 (s1), S.2).2).2 13) (x3).toNatClampNeg ((x2) - ((Int8.ofInt (97)).toInt32)))).1, va_up ((va_up (va_up S.1 20 (s1), S.2).1 16 (((va_up S.1 20 (s1), S.2).1 16) + (Int32.ofInt 1)), (va_up S.1 20 (s1), S.2).2).1, va_up (va_up (va_up S.1 20 (s1), S.2).1 16 (((va_up S.1 20 (s1), S.2).1 16) + (Int32.ofInt 1)), (va_up S.1 20 (s1), S.2).2).2 13 (upd ((va_up (va_up S.1 20 (s1), S.2).1 16 (((va_up S.1 20 (s1), S.2).1 16) + (Int32.ofInt 1)), (va_up S.1 20 (s1), S.2).2).2 13) (x3).toNatClampNeg ((x2) - ((Int8.ofInt (97)).toInt32)))).2 13 (upd (((va_up (va_up S.1 20 (s1), S.2).1 16 (((va_up S.1 20 (s1), S.2).1 16) + (Int32.ofInt 1)), (va_up S.1 20 (s1), S.2).2).1, va_up (va_up (va_up S.1 20 (s1), S.2).1 16 (((va_up S.1 20 (s1), S.2).1 16) + (Int32.ofInt 1)), (va_up S.1 20 (s1), S.2).2).2 13 (upd ((va_up (va_up S.1 20 (s1), S.2).1 16 (((va_up S.1 20 (s1), S.2).1 16) + (Int32.ofInt 1)), (va_up S.1 20 (s1), S.2).2).2 13) (x3).toNatClampNeg ((x2) - ((Int8.ofInt (97)).toInt32)))).2 13) ((x3) + (Int32.ofInt 1)).toNatClampNeg (Int32.ofInt 0))).2 13 (upd ((((va_up (va_up S.1 20 (s1), S.2).1 16 (((va_up S.1 20 (s1), S.2).1 16) + (Int32.ofInt 1)), (va_up S.1 20 (s1), S.2).2).1, va_up (va_up (va_up S.1 20 (s1), S.2).1 16 (((va_up S.1 20 (s1), S.2).1 16) + (Int32.ofInt 1)), (va_up S.1 20 (s1), S.2).2).2 13 (upd ((va_up (va_up S.1 20 (s1), S.2).1 16 (((va_up S.1 20 (s1), S.2).1 16) + (Int32.ofInt 1)), (va_up S.1 20 (s1), S.2).2).2 13) (x3).toNatClampNeg ((x2) - ((Int8.ofInt (97)).toInt32)))).1, va_up ((va_up (va_up S.1 20 (s1), S.2).1 16 (((va_up S.1 20 (s1), S.2).1 16) + (Int32.ofInt 1)), (va_up S.1 20 (s1), S.2).2).1, va_up (va_up (va_up S.1 20 (s1), S.2).1 16 (((va_up S.1 20 (s1), S.2).1 16) + (Int32.ofInt 1)), (va_up S.1 20 (s1), S.2).2).2 13 (upd ((va_up (va_up S.1 20 (s1), S.2).1 16 (((va_up S.1 20 (s1), S.2).1 16) + (Int32.ofInt 1)), (va_up S.1 20 (s1), S.2).2).2 13) (x3).toNatClampNeg ((x2) - ((Int8.ofInt (97)).toInt32)))).2 13 (upd (((va_up (va_up S.1 20 (s1), S.2).1 16 (((va_up S.1 20 (s1), S.2).1 16) + (Int32.ofInt 1)), (va_up S.1 20 (s1), S.2).2).1, va_up (va_up (va_up S.1 20 (s1), S.2).1 16 (((va_up S.1 20 (s1), S.2).1 16) + (Int32.ofInt 1)), (va_up S.1 20 (s1), S.2).2).2 13 (upd ((va_up (va_up S.1 20 (s1), S.2).1 16 (((va_up S.1 20 (s1), S.2).1 16) + (Int32.ofInt 1)), (va_up S.1 20 (s1), S.2).2).2 13) (x3).toNatClampNeg ((x2) - ((Int8.ofInt (97)).toInt32)))).2 13) ((x3) + (Int32.ofInt 1)).toNatClampNeg (Int32.ofInt 0))).2 13) ((x3) + (Int32.ofInt 2)).toNatClampNeg (Int32.ofInt 0))).2 13 (upd (((((va_up (va_up S.1 20 (s1), S.2).1 16 (((va_up S.1 20 (s1), S.2).1 16) + (Int32.ofInt 1)), (va_up S.1 20 (s1), S.2).2).1, va_up (va_up (va_up S.1 20 (s1), S.2).1 16 (((va_up S.1 20 (s1), S.2).1 16) + (Int32.ofInt 1)), (va_up S.1 20 (s1), S.2).2).2 13 (upd ((va_up (va_up S.1 20 (s1), S.2).1 16 (((va_up S.1 20 (s1), S.2).1 16) + (Int32.ofInt 1)), (va_up S.1 20 (s1), S.2).2).2 13) (x3).toNatClampNeg ((x2) - ((Int8.ofInt (97)).toInt32)))).1, va_up ((va_up (va_up S.1 20 (s1), S.2).1 16 (((va_up S.1 20 (s1), S.2).1 16) + (Int32.ofInt 1)), (va_up S.1 20 (s1), S.2).2).1, va_up (va_up (va_up S.1 20 (s1), S.2).1 16 (((va_up S.1 20 (s1), S.2).1 16) + (Int32.ofInt 1)), (va_up S.1 20 (s1), S.2).2).2 13 (upd ((va_up (va_up S.1 20 (s1), S.2).1 16 (((va_up S.1 20 (s1), S.2).1 16) + (Int32.ofInt 1)), (va_up S.1 20 (s1), S.2).2).2 13) (x3).toNatClampNeg ((x2) - ((Int8.ofInt (97)).toInt32)))).2 13 (upd (((va_up (va_up S.1 20 (s1), S.2).1 16 (((va_up S.1 20 (s1), S.2).1 16) + (Int32.ofInt 1)), (va_up S.1 20 (s1), S.2).2).1, va_up (va_up (va_up S.1 20 (s1), S.2).1 16 (((va_up S.1 20 (s1), S.2).1 16) + (Int32.ofInt 1)), (va_up S.1 20 (s1), S.2).2).2 13 (upd ((va_up (va_up S.1 20 (s1), S.2).1 16 (((va_up S.1 20 (s1), S.2).1 16) + (Int32.ofInt 1)), (va_up S.1 20 (s1), S.2).2).2 13) (x3).toNatClampNeg ((x2) - ((Int8.ofInt (97)).toInt32)))).2 13) ((x3) + (Int32.ofInt 1)).toNatClampNeg (Int32.ofInt 0))).1, va_up (((va_up (va_up S.1 20 (s1), S.2).1 16 (((va_up S.1 20 (s1), S.2).1 16) + (Int32.ofInt 1)), (va_up S.1 20 (s1), S.2).2).1, va_up (va_up (va_up S.1 20 (s1), S.2).1 16 (((va_up S.1 20 (s1), S.2).1 16) + (Int32.ofInt 1)), (va_up S.1 20 (s1), S.2).2).2 13 (upd ((va_up (va_up S.1 20 (s1), S.2).1 16 (((va_up S.1 20 (s1), S.2).1 16) + (Int32.ofInt 1)), (va_up S.1 20 (s1), S.2).2).2 13) (x3).toNatClampNeg ((x2) - ((Int8.ofInt (97)).toInt32)))).1, va_up ((va_up (va_up S.1 20 (s1), S.2).1 16 (((va_up S.1 20 (s1), S.2).1 16) + (Int32.ofInt 1)), (va_up S.1 20 (s1), S.2).2).1, va_up (va_up (va_up S.1 20 (s1), S.2).1 16 (((va_up S.1 20 (s1), S.2).1 16) + (Int32.ofInt 1)), (va_up S.1 20 (s1), S.2).2).2 13 (upd ((va_up (va_up S.1 20 (s1), S.2).1 16 (((va_up S.1 20 (s1), S.2).1 16) + (Int32.ofInt 1)), (va_up S.1 20 (s1), S.2).2).2 13) (x3).toNatClampNeg ((x2) - ((Int8.ofInt (97)).toInt32)))).2 13 (upd (((va_up (va_up S.1 20 (s1), S.2).1 16 (((va_up S.1 20 (s1), S.2).1 16) + (Int32.ofInt 1)), (va_up S.1 20 (s1), S.2).2).1, va_up (va_up (va_up S.1 20 (s1), S.2).1 16 (((va_up S.1 20 (s1), S.2).1 16) + (Int32.ofInt 1)), (va_up S.1 20 (s1), S.2).2).2 13 (upd ((va_up (va_up S.1 20 (s1), S.2).1 16 (((va_up S.1 20 (s1), S.2).1 16) + (Int32.ofInt 1)), (va_up S.1 20 (s1), S.2).2).2 13) (x3).toNatClampNeg ((x2) - ((Int8.ofInt (97)).toInt32)))).2 13) ((x3) + (Int32.ofInt 1)).toNatClampNeg (Int32.ofInt 0))).2 13 (upd ((((va_up (va_up S.1 20 (s1), S.2).1 16 (((va_up S.1 20 (s1), S.2).1 16) + (Int32.ofInt 1)), (va_up S.1 20 (s1), S.2).2).1, va_up (va_up (va_up S.1 20 (s1), S.2).1 16 (((va_up S.1 20 (s1), S.2).1 16) + (Int32.ofInt 1)), (va_up S.1 20 (s1), S.2).2).2 13 (upd ((va_up (va_up S.1 20 (s1), S.2).1 16 (((va_up S.1 20 (s1), S.2).1 16) + (Int32.ofInt 1)), (va_up S.1 20 (s1), S.2).2).2 13) (x3).toNatClampNeg ((x2) - ((Int8.ofInt (97)).toInt32)))).1, va_up ((va_up (va_up S.1 20 (s1), S.2).1 16 (((va_up S.1 20 (s1), S.2).1 16) + (Int32.ofInt 1)), (va_up S.1 20 (s1), S.2).2).1, va_up (va_up (va_up S.1 20 (s1), S.2).1 16 (((va_up S.1 20 (s1), S.2).1 16) + (Int32.ofInt 1)), (va_up S.1 20 (s1), S.2).2).2 13 (upd ((va_up (va_up S.1 20 (s1), S.2).1 16 (((va_up S.1 20 (s1), S.2).1 16) + (Int32.ofInt 1)), (va_up S.1 20 (s1), S.2).2).2 13) (x3).toNatClampNeg ((x2) - ((Int8.ofInt (97)).toInt32)))).2 13 (upd (((va_up (va_up S.1 20 (s1), S.2).1 16 (((va_up S.1 20 (s1), S.2).1 16) + (Int32.ofInt 1)), (va_up S.1 20 (s1), S.2).2).1, va_up (va_up (va_up S.1 20 (s1), S.2).1 16 (((va_up S.1 20 (s1), S.2).1 16) + (Int32.ofInt 1)), (va_up S.1 20 (s1), S.2).2).2 13 (upd ((va_up (va_up S.1 20 (s1), S.2).1 16 (((va_up S.1 20 (s1), S.2).1 16) + (Int32.ofInt 1)), (va_up S.1 20 (s1), S.2).2).2 13) (x3).toNatClampNeg ((x2) - ((Int8.ofInt (97)).toInt32)))).2 13) ((x3) + (Int32.ofInt 1)).toNatClampNeg (Int32.ofInt 0))).2 13) ((x3) + (Int32.ofInt 2)).toNatClampNeg (Int32.ofInt 0))).2 13) ((x3) + (Int32.ofInt 3)).toNatClampNeg (Int32.ofInt 0))))) else none) else none) else none) else none) else none
def fn_Md_readAtom_30 (N : Nat) (x2 : Int32) (x3 : Int32) (S : MS) : Option (Int32 × MS) := fn_Md_readAtom_35 N (x2) (x3) (Int32.ofInt 1) S
def fn_Md_readAtom_0 (N : Nat) (x1 : Int32) (S : MS) : Option (Int32 × MS) := (fn_Md_here N S).bind fun r1 => if (r1.1) < ((Int8.ofInt (97)).toInt32) then (fn_Md_readAtom_30 N (r1.1) ((((Int8.ofInt (16)).toInt32) * (r1.2.1 19)) + ((Int32.ofInt 4) * (x1))) r1.2) else (if (r1.1) ≤ ((Int8.ofInt (122)).toInt32) then (fn_Md_readAtom_35 N (r1.1) ((((Int8.ofInt (16)).toInt32) * (r1.2.1 19)) + ((Int32.ofInt 4) * (x1))) (Int32.ofInt 0) r1.2) else (fn_Md_readAtom_30 N (r1.1) ((((Int8.ofInt (16)).toInt32) * (r1.2.1 19)) + ((Int32.ofInt 4) * (x1))) r1.2))
def fn_Md_readAtom (N : Nat) (p1 : Int32) (S : MS) : Option (Int32 × MS) := fn_Md_readAtom_0 N p1 S
theorem w_Md_readAtom_101 {l : Launch} {G : ag_G} {d N : Nat} {h : ag_H} {a : Nat} (hb : md_ok h a) (hH : 2 ≤ d) {S : MS} {res : Int32 × MS} (hyp : fn_Md_readAtom_101 N S = some res) : ag_ev gc_P l G m_Md_readAtom (d + 1) (ag_ret gc_P G (fun v h' => v = none ∧ h' = md_up h a res.2)) 101 [(0, .ref a)] [] (md_up h a S) := by
  unfold fn_Md_readAtom_101 at hyp
  cases hyp
  exact ag_vret d_Md_readAtom_101 rfl ⟨rfl, rfl⟩
theorem w_Md_readAtom_226 {l : Launch} {G : ag_G} {d N : Nat} {h : ag_H} {a : Nat} (hb : md_ok h a) (hH : 2 ≤ d) {s1 : Int32} {S : MS} {res : Int32 × MS} (hyp : fn_Md_readAtom_226 N s1 S = some res) : ag_ev gc_P l G m_Md_readAtom (d + 1) (ag_ret gc_P G (fun v h' => v = none ∧ h' = md_up h a res.2)) 226 [(0, .ref a)] [.int (s1), .ref a] (md_up h a S) := by
  unfold fn_Md_readAtom_226 at hyp
  obtain ⟨qz, hyp⟩ := md_ifs hyp
  refine md_putz hb d_Md_readAtom_226 fl_Md_108 rfl (by decide) qz ?_
  cases hyp
  exact ag_vret d_Md_readAtom_229 rfl ⟨rfl, rfl⟩
theorem w_Md_readAtom_221 {l : Launch} {G : ag_G} {d N : Nat} {h : ag_H} {a : Nat} (hb : md_ok h a) (hH : 2 ≤ d) {S : MS} {res : Int32 × MS} (hyp : fn_Md_readAtom_221 N S = some res) : ag_ev gc_P l G m_Md_readAtom (d + 1) (ag_ret gc_P G (fun v h' => v = none ∧ h' = md_up h a res.2)) 221 [(0, .ref a)] [.ref a] (md_up h a S) := by
  unfold fn_Md_readAtom_221 at hyp
  refine ag_iconst d_Md_readAtom_221 ?_
  refine ag_goto d_Md_readAtom_222 rfl ?_
  exact ag_dr (ag_d1 rfl ag_d0) (w_Md_readAtom_226 hb hH hyp)
theorem w_Md_readAtom_204 {l : Launch} {G : ag_G} {d N : Nat} {h : ag_H} {a : Nat} (hb : md_ok h a) (hH : 2 ≤ d) {S : MS} {res : Int32 × MS} (hyp : fn_Md_readAtom_204 N S = some res) : ag_ev gc_P l G m_Md_readAtom (d + 1) (ag_ret gc_P G (fun v h' => v = none ∧ h' = md_up h a res.2)) 204 [(0, .ref a)] [] (md_up h a S) := by
  unfold fn_Md_readAtom_204 at hyp
  refine ag_aload_n d_Md_readAtom_204 rfl ?_
  refine ag_aload_n d_Md_readAtom_205 rfl ?_
  refine md_get hb d_Md_readAtom_206 fr_Md_108 rfl ?_
  refine ag_if_ne d_Md_readAtom_209 rfl (fun q => ?_) (fun q => ?_)
  · replace hyp := md_ifn q hyp
    exact ag_dr (ag_d1 rfl ag_d0) (w_Md_readAtom_221 hb hH hyp)
  · replace hyp := md_ifp q hyp
    refine ag_aload_n d_Md_readAtom_212 rfl ?_
    refine ag_bipush d_Md_readAtom_213 ?_
    obtain ⟨r1, e1, hyp⟩ := md_bd hyp
    refine ag_callv (as := [.int ((Int8.ofInt (41)).toInt32)]) d_Md_readAtom_215 ml_Md_125 gw_1111 rfl sl_Md_next (md_at0 hb _) (Nat.le_of_ble_eq_true rfl) (w_Md_next hb (d := d) (by omega) e1) (fun v1 h1 q1 => ?_)
    obtain ⟨rfl, rfl⟩ := q1
    refine ag_if_ne d_Md_readAtom_218 rfl (fun q => ?_) (fun q => ?_)
    · replace hyp := md_ifn q hyp
      refine ag_iconst d_Md_readAtom_225 ?_
      exact ag_dr (ag_d1 rfl ag_d0) (w_Md_readAtom_226 hb hH hyp)
    · replace hyp := md_ifp q hyp
      exact ag_dr (ag_d1 rfl ag_d0) (w_Md_readAtom_221 hb hH hyp)
theorem w_Md_readAtom_199 {l : Launch} {G : ag_G} {d N : Nat} {h : ag_H} {a : Nat} (hb : md_ok h a) (hH : 2 ≤ d) {k105 : Int32 → Int32 → MS → Option (Int32 × MS)} (hk105 : ∀ (res : Int32 × MS) (y3 : Int32) (y4 : Int32) (T : MS), k105 y3 y4 T = some res → ag_ev gc_P l G m_Md_readAtom (d + 1) (ag_ret gc_P G (fun v h' => v = none ∧ h' = md_up h a res.2)) 105 [(0, .ref a), (3, .int (y3)), (4, .int (y4))] [] (md_up h a T)) {x3 : Int32} {s0 : Int32} {S : MS} {res : Int32 × MS} (hyp : fn_Md_readAtom_199 N k105 x3 s0 S = some res) : ag_ev gc_P l G m_Md_readAtom (d + 1) (ag_ret gc_P G (fun v h' => v = none ∧ h' = md_up h a res.2)) 199 [(0, .ref a), (3, .int (x3))] [.int (s0)] (md_up h a S) := by
  unfold fn_Md_readAtom_199 at hyp
  refine ag_istore d_Md_readAtom_199 (by decide) ?_
  refine ag_goto d_Md_readAtom_201 rfl ?_
  exact ag_dr (ag_d1 rfl (ag_d1 rfl (ag_d1 rfl ag_d0))) (hk105 _ _ _ _ hyp)
theorem w_Md_readAtom_198 {l : Launch} {G : ag_G} {d N : Nat} {h : ag_H} {a : Nat} (hb : md_ok h a) (hH : 2 ≤ d) {k105 : Int32 → Int32 → MS → Option (Int32 × MS)} (hk105 : ∀ (res : Int32 × MS) (y3 : Int32) (y4 : Int32) (T : MS), k105 y3 y4 T = some res → ag_ev gc_P l G m_Md_readAtom (d + 1) (ag_ret gc_P G (fun v h' => v = none ∧ h' = md_up h a res.2)) 105 [(0, .ref a), (3, .int (y3)), (4, .int (y4))] [] (md_up h a T)) {x3 : Int32} {S : MS} {res : Int32 × MS} (hyp : fn_Md_readAtom_198 N k105 x3 S = some res) : ag_ev gc_P l G m_Md_readAtom (d + 1) (ag_ret gc_P G (fun v h' => v = none ∧ h' = md_up h a res.2)) 198 [(0, .ref a), (3, .int (x3))] [] (md_up h a S) := by
  unfold fn_Md_readAtom_198 at hyp
  refine ag_iconst d_Md_readAtom_198 ?_
  exact ag_dr (ag_d1 rfl (ag_d1 rfl ag_d0)) (w_Md_readAtom_199 hb hH hk105 hyp)
theorem w_Md_readAtom_178 {l : Launch} {G : ag_G} {d N : Nat} {h : ag_H} {a : Nat} (hb : md_ok h a) (hH : 2 ≤ d) {k105 : Int32 → Int32 → MS → Option (Int32 × MS)} (hk105 : ∀ (res : Int32 × MS) (y3 : Int32) (y4 : Int32) (T : MS), k105 y3 y4 T = some res → ag_ev gc_P l G m_Md_readAtom (d + 1) (ag_ret gc_P G (fun v h' => v = none ∧ h' = md_up h a res.2)) 105 [(0, .ref a), (3, .int (y3)), (4, .int (y4))] [] (md_up h a T)) {x3 : Int32} {S : MS} {res : Int32 × MS} (hyp : fn_Md_readAtom_178 N k105 x3 S = some res) : ag_ev gc_P l G m_Md_readAtom (d + 1) (ag_ret gc_P G (fun v h' => v = none ∧ h' = md_up h a res.2)) 178 [(0, .ref a), (3, .int (x3))] [] (md_up h a S) := by
  unfold fn_Md_readAtom_178 at hyp
  refine ag_aload_n d_Md_readAtom_178 rfl ?_
  refine md_get hb d_Md_readAtom_179 fr_Md_108 rfl ?_
  refine ag_if_ne d_Md_readAtom_182 rfl (fun q => ?_) (fun q => ?_)
  · replace hyp := md_ifn q hyp
    exact ag_dr (ag_d1 rfl (ag_d1 rfl ag_d0)) (w_Md_readAtom_198 hb hH hk105 hyp)
  · replace hyp := md_ifp q hyp
    refine ag_aload_n d_Md_readAtom_185 rfl ?_
    refine ag_bipush d_Md_readAtom_186 ?_
    obtain ⟨r1, e1, hyp⟩ := md_bd hyp
    refine ag_callv (as := [.int ((Int8.ofInt (44)).toInt32)]) d_Md_readAtom_188 ml_Md_125 gw_1111 rfl sl_Md_next (md_at0 hb _) (Nat.le_of_ble_eq_true rfl) (w_Md_next hb (d := d) (by omega) e1) (fun v1 h1 q1 => ?_)
    obtain ⟨rfl, rfl⟩ := q1
    refine ag_if_eq d_Md_readAtom_191 rfl (fun q => ?_) (fun q => ?_)
    · replace hyp := md_ifp q hyp
      exact ag_dr (ag_d1 rfl (ag_d1 rfl ag_d0)) (w_Md_readAtom_198 hb hH hk105 hyp)
    · replace hyp := md_ifn q hyp
      refine ag_iconst d_Md_readAtom_194 ?_
      refine ag_goto d_Md_readAtom_195 rfl ?_
      exact ag_dr (ag_d1 rfl (ag_d1 rfl ag_d0)) (w_Md_readAtom_199 hb hH hk105 hyp)
theorem w_Md_readAtom_147 {l : Launch} {G : ag_G} {d N : Nat} {h : ag_H} {a : Nat} (hb : md_ok h a) (hH : 2 ≤ d) {k105 : Int32 → Int32 → MS → Option (Int32 × MS)} (hk105 : ∀ (res : Int32 × MS) (y3 : Int32) (y4 : Int32) (T : MS), k105 y3 y4 T = some res → ag_ev gc_P l G m_Md_readAtom (d + 1) (ag_ret gc_P G (fun v h' => v = none ∧ h' = md_up h a res.2)) 105 [(0, .ref a), (3, .int (y3)), (4, .int (y4))] [] (md_up h a T)) {x3 : Int32} {s1 : Int32} {S : MS} {res : Int32 × MS} (hyp : fn_Md_readAtom_147 N k105 x3 s1 S = some res) : ag_ev gc_P l G m_Md_readAtom (d + 1) (ag_ret gc_P G (fun v h' => v = none ∧ h' = md_up h a res.2)) 147 [(0, .ref a), (3, .int (x3))] [.int (s1), .ref a] (md_up h a S) := by
  unfold fn_Md_readAtom_147 at hyp
  obtain ⟨qz, hyp⟩ := md_ifs hyp
  refine md_putz hb d_Md_readAtom_147 fl_Md_108 rfl (by decide) qz ?_
  refine ag_aload_n d_Md_readAtom_150 rfl ?_
  refine md_get hb d_Md_readAtom_151 fr_Md_108 rfl ?_
  refine ag_if_ne d_Md_readAtom_154 rfl (fun q => ?_) (fun q => ?_)
  · replace hyp := md_ifn q hyp
    exact ag_dr (ag_d1 rfl (ag_d1 rfl ag_d0)) (w_Md_readAtom_178 hb hH hk105 hyp)
  · replace hyp := md_ifp q hyp
    refine ag_aload_n d_Md_readAtom_157 rfl ?_
    refine md_get hb d_Md_readAtom_158 fr_Md_57 rfl ?_
    refine ag_iload_n d_Md_readAtom_161 rfl ?_
    refine ag_iconst d_Md_readAtom_162 ?_
    refine ag_iadd d_Md_readAtom_163 ?_
    refine ag_aload_n d_Md_readAtom_164 rfl ?_
    refine md_get hb d_Md_readAtom_165 fr_Md_57 rfl ?_
    refine ag_iload_n d_Md_readAtom_168 rfl ?_
    refine ag_iconst d_Md_readAtom_169 ?_
    refine ag_iadd d_Md_readAtom_170 ?_
    obtain ⟨qi, hyp⟩ := md_ifs hyp
    refine md_ald hb d_Md_readAtom_171 (by decide) (by decide) rfl qi ?_
    refine ag_iadd d_Md_readAtom_172 ?_
    refine ag_aload_n d_Md_readAtom_173 rfl ?_
    obtain ⟨r1, e1, hyp⟩ := md_bd hyp
    refine ag_callv (as := []) d_Md_readAtom_174 ml_Md_134 gw_1115 rfl sl_Md_term (md_at0 hb _) (Nat.le_of_ble_eq_true rfl) (w_Md_term hb (d := d) (by omega) e1) (fun v1 h1 q1 => ?_)
    obtain ⟨rfl, rfl⟩ := q1
    obtain ⟨qi, hyp⟩ := md_ifs hyp
    refine md_ast hb d_Md_readAtom_177 (by decide) (by decide) rfl qi ?_
    exact ag_dr (ag_d1 rfl (ag_d1 rfl ag_d0)) (w_Md_readAtom_178 hb hH hk105 hyp)
theorem w_Md_readAtom_105 {l : Launch} {G : ag_G} {d N : Nat} {h : ag_H} {a : Nat} (hb : md_ok h a) (hH : 2 ≤ d) : ∀ (n : Nat) (res : Int32 × MS) (x3 : Int32) (x4 : Int32) (S : MS) , fn_Md_readAtom_105 N n x3 x4 S = some res → ag_ev gc_P l G m_Md_readAtom (d + 1) (ag_ret gc_P G (fun v h' => v = none ∧ h' = md_up h a res.2)) 105 [(0, .ref a), (3, .int (x3)), (4, .int (x4))] [] (md_up h a S) := by
  intro n
  induction n with
  | zero =>
    intro res x3 x4 S hyp
    cases hyp
  | succ n ih =>
    intro res x3 x4 S hyp
    rw [fe_Md_readAtom_105] at hyp
    refine ag_iload d_Md_readAtom_105 rfl ?_
    refine ag_if_eq d_Md_readAtom_107 rfl (fun q => ?_) (fun q => ?_)
    · replace hyp := md_ifp q hyp
      exact ag_dr (ag_d1 rfl ag_d0) (w_Md_readAtom_204 hb hH hyp)
    · replace hyp := md_ifn q hyp
      refine ag_aload_n d_Md_readAtom_110 rfl ?_
      refine md_get hb d_Md_readAtom_111 fr_Md_108 rfl ?_
      refine ag_if_ne d_Md_readAtom_114 rfl (fun q => ?_) (fun q => ?_)
      · replace hyp := md_ifn q hyp
        exact ag_dr (ag_d1 rfl ag_d0) (w_Md_readAtom_204 hb hH hyp)
      · replace hyp := md_ifp q hyp
        refine ag_aload_n d_Md_readAtom_117 rfl ?_
        refine md_get hb d_Md_readAtom_118 fr_Md_57 rfl ?_
        refine ag_iload_n d_Md_readAtom_121 rfl ?_
        refine ag_iconst d_Md_readAtom_122 ?_
        refine ag_iadd d_Md_readAtom_123 ?_
        refine ag_dup2 d_Md_readAtom_124 rfl rfl ?_
        obtain ⟨qi, hyp⟩ := md_ifs hyp
        refine md_ald hb d_Md_readAtom_125 (by decide) (by decide) rfl qi ?_
        refine ag_iconst d_Md_readAtom_126 ?_
        refine ag_iadd d_Md_readAtom_127 ?_
        obtain ⟨qi, hyp⟩ := md_ifs hyp
        refine md_ast hb d_Md_readAtom_128 (by decide) (by decide) rfl qi ?_
        refine ag_aload_n d_Md_readAtom_129 rfl ?_
        refine ag_aload_n d_Md_readAtom_130 rfl ?_
        refine md_get hb d_Md_readAtom_131 fr_Md_57 rfl ?_
        refine ag_iload_n d_Md_readAtom_134 rfl ?_
        refine ag_iconst d_Md_readAtom_135 ?_
        refine ag_iadd d_Md_readAtom_136 ?_
        obtain ⟨qi, hyp⟩ := md_ifs hyp
        refine md_ald hb d_Md_readAtom_137 (by decide) (by decide) rfl qi ?_
        refine ag_iconst d_Md_readAtom_138 ?_
        refine ag_icmp_le d_Md_readAtom_139 rfl (fun q => ?_) (fun q => ?_)
        · replace hyp := md_ifp q hyp
          refine ag_iconst d_Md_readAtom_146 ?_
          exact ag_dr (ag_d1 rfl (ag_d1 rfl ag_d0)) (w_Md_readAtom_147 hb hH ih hyp)
        · replace hyp := md_ifn q hyp
          refine ag_iconst d_Md_readAtom_142 ?_
          refine ag_goto d_Md_readAtom_143 rfl ?_
          exact ag_dr (ag_d1 rfl (ag_d1 rfl ag_d0)) (w_Md_readAtom_147 hb hH ih hyp)
theorem w_Md_readAtom_35 {l : Launch} {G : ag_G} {d N : Nat} {h : ag_H} {a : Nat} (hb : md_ok h a) (hH : 2 ≤ d) {x2 : Int32} {x3 : Int32} {s1 : Int32} {S : MS} {res : Int32 × MS} (hyp : fn_Md_readAtom_35 N x2 x3 s1 S = some res) : ag_ev gc_P l G m_Md_readAtom (d + 1) (ag_ret gc_P G (fun v h' => v = none ∧ h' = md_up h a res.2)) 35 [(0, .ref a), (2, .int (x2)), (3, .int (x3))] [.int (s1), .ref a] (md_up h a S) := by
  unfold fn_Md_readAtom_35 at hyp
  obtain ⟨qz, hyp⟩ := md_ifs hyp
  refine md_putz hb d_Md_readAtom_35 fl_Md_108 rfl (by decide) qz ?_
  refine ag_aload_n d_Md_readAtom_38 rfl ?_
  refine ag_dup d_Md_readAtom_39 rfl ?_
  refine md_get hb d_Md_readAtom_40 fr_Md_87 rfl ?_
  refine ag_iconst d_Md_readAtom_43 ?_
  refine ag_iadd d_Md_readAtom_44 ?_
  refine md_puti hb d_Md_readAtom_45 fl_Md_87 rfl (by decide) rfl rfl ?_
  refine ag_aload_n d_Md_readAtom_48 rfl ?_
  refine md_get hb d_Md_readAtom_49 fr_Md_57 rfl ?_
  refine ag_iload_n d_Md_readAtom_52 rfl ?_
  refine ag_iload_n d_Md_readAtom_53 rfl ?_
  refine ag_bipush d_Md_readAtom_54 ?_
  refine ag_isub d_Md_readAtom_56 ?_
  obtain ⟨qi, hyp⟩ := md_ifs hyp
  refine md_ast hb d_Md_readAtom_57 (by decide) (by decide) rfl qi ?_
  refine ag_aload_n d_Md_readAtom_58 rfl ?_
  refine md_get hb d_Md_readAtom_59 fr_Md_57 rfl ?_
  refine ag_iload_n d_Md_readAtom_62 rfl ?_
  refine ag_iconst d_Md_readAtom_63 ?_
  refine ag_iadd d_Md_readAtom_64 ?_
  refine ag_iconst d_Md_readAtom_65 ?_
  obtain ⟨qi, hyp⟩ := md_ifs hyp
  refine md_ast hb d_Md_readAtom_66 (by decide) (by decide) rfl qi ?_
  refine ag_aload_n d_Md_readAtom_67 rfl ?_
  refine md_get hb d_Md_readAtom_68 fr_Md_57 rfl ?_
  refine ag_iload_n d_Md_readAtom_71 rfl ?_
  refine ag_iconst d_Md_readAtom_72 ?_
  refine ag_iadd d_Md_readAtom_73 ?_
  refine ag_iconst d_Md_readAtom_74 ?_
  obtain ⟨qi, hyp⟩ := md_ifs hyp
  refine md_ast hb d_Md_readAtom_75 (by decide) (by decide) rfl qi ?_
  refine ag_aload_n d_Md_readAtom_76 rfl ?_
  refine md_get hb d_Md_readAtom_77 fr_Md_57 rfl ?_
  refine ag_iload_n d_Md_readAtom_80 rfl ?_
  refine ag_iconst d_Md_readAtom_81 ?_
  refine ag_iadd d_Md_readAtom_82 ?_
  refine ag_iconst d_Md_readAtom_83 ?_
  obtain ⟨qi, hyp⟩ := md_ifs hyp
  refine md_ast hb d_Md_readAtom_84 (by decide) (by decide) rfl qi ?_
  refine ag_aload_n d_Md_readAtom_85 rfl ?_
  refine md_get hb d_Md_readAtom_86 fr_Md_108 rfl ?_
  refine ag_if_ne d_Md_readAtom_89 rfl (fun q => ?_) (fun q => ?_)
  · replace hyp := md_ifn q hyp
    exact ag_dr (ag_d1 rfl ag_d0) (w_Md_readAtom_101 hb hH hyp)
  · replace hyp := md_ifp q hyp
    refine ag_aload_n d_Md_readAtom_92 rfl ?_
    refine ag_bipush d_Md_readAtom_93 ?_
    obtain ⟨r1, e1, hyp⟩ := md_bd hyp
    refine ag_callv (as := [.int ((Int8.ofInt (40)).toInt32)]) d_Md_readAtom_95 ml_Md_125 gw_1111 rfl sl_Md_next (md_at0 hb _) (Nat.le_of_ble_eq_true rfl) (w_Md_next hb (d := d) (by omega) e1) (fun v1 h1 q1 => ?_)
    obtain ⟨rfl, rfl⟩ := q1
    refine ag_if_ne d_Md_readAtom_98 rfl (fun q => ?_) (fun q => ?_)
    · replace hyp := md_ifn q hyp
      refine ag_iconst d_Md_readAtom_102 ?_
      refine ag_istore d_Md_readAtom_103 (by decide) ?_
      exact ag_dr (ag_d1 rfl (ag_d1 rfl (ag_d1 rfl ag_d0))) (w_Md_readAtom_105 hb hH N _ _ _ _ hyp)
    · replace hyp := md_ifp q hyp
      exact ag_dr (ag_d1 rfl ag_d0) (w_Md_readAtom_101 hb hH hyp)
theorem w_Md_readAtom_30 {l : Launch} {G : ag_G} {d N : Nat} {h : ag_H} {a : Nat} (hb : md_ok h a) (hH : 2 ≤ d) {x2 : Int32} {x3 : Int32} {S : MS} {res : Int32 × MS} (hyp : fn_Md_readAtom_30 N x2 x3 S = some res) : ag_ev gc_P l G m_Md_readAtom (d + 1) (ag_ret gc_P G (fun v h' => v = none ∧ h' = md_up h a res.2)) 30 [(0, .ref a), (2, .int (x2)), (3, .int (x3))] [.ref a] (md_up h a S) := by
  unfold fn_Md_readAtom_30 at hyp
  refine ag_iconst d_Md_readAtom_30 ?_
  refine ag_goto d_Md_readAtom_31 rfl ?_
  exact ag_dr (ag_d1 rfl (ag_d1 rfl (ag_d1 rfl ag_d0))) (w_Md_readAtom_35 hb hH hyp)
theorem w_Md_readAtom_0 {l : Launch} {G : ag_G} {d N : Nat} {h : ag_H} {a : Nat} (hb : md_ok h a) (hH : 2 ≤ d) {x1 : Int32} {S : MS} {res : Int32 × MS} (hyp : fn_Md_readAtom_0 N x1 S = some res) : ag_ev gc_P l G m_Md_readAtom (d + 1) (ag_ret gc_P G (fun v h' => v = none ∧ h' = md_up h a res.2)) 0 [(0, .ref a), (1, .int (x1))] [] (md_up h a S) := by
  unfold fn_Md_readAtom_0 at hyp
  refine ag_aload_n d_Md_readAtom_0 rfl ?_
  obtain ⟨r1, e1, hyp⟩ := md_bd hyp
  refine ag_callv (as := []) d_Md_readAtom_1 ml_Md_96 gw_1103 rfl sl_Md_here (md_at0 hb _) (Nat.le_of_ble_eq_true rfl) (w_Md_here hb (d := d) (by omega) e1) (fun v1 h1 q1 => ?_)
  obtain ⟨rfl, rfl⟩ := q1
  refine ag_istore_n d_Md_readAtom_4 (by decide) ?_
  refine ag_bipush d_Md_readAtom_5 ?_
  refine ag_aload_n d_Md_readAtom_7 rfl ?_
  refine md_get hb d_Md_readAtom_8 fr_Md_112 rfl ?_
  refine ag_imul d_Md_readAtom_11 ?_
  refine ag_iconst d_Md_readAtom_12 ?_
  refine ag_iload_n d_Md_readAtom_13 rfl ?_
  refine ag_imul d_Md_readAtom_14 ?_
  refine ag_iadd d_Md_readAtom_15 ?_
  refine ag_istore_n d_Md_readAtom_16 (by decide) ?_
  refine ag_aload_n d_Md_readAtom_17 rfl ?_
  refine ag_iload_n d_Md_readAtom_18 rfl ?_
  refine ag_bipush d_Md_readAtom_19 ?_
  refine ag_icmp_lt d_Md_readAtom_21 rfl (fun q => ?_) (fun q => ?_)
  · replace hyp := md_ifp q hyp
    exact ag_dr (ag_d1 rfl (ag_d1 rfl (ag_d1 rfl ag_d0))) (w_Md_readAtom_30 hb hH hyp)
  · replace hyp := md_ifn q hyp
    refine ag_iload_n d_Md_readAtom_24 rfl ?_
    refine ag_bipush d_Md_readAtom_25 ?_
    refine ag_icmp_le d_Md_readAtom_27 rfl (fun q => ?_) (fun q => ?_)
    · replace hyp := md_ifp q hyp
      refine ag_iconst d_Md_readAtom_34 ?_
      exact ag_dr (ag_d1 rfl (ag_d1 rfl (ag_d1 rfl ag_d0))) (w_Md_readAtom_35 hb hH hyp)
    · replace hyp := md_ifn q hyp
      exact ag_dr (ag_d1 rfl (ag_d1 rfl (ag_d1 rfl ag_d0))) (w_Md_readAtom_30 hb hH hyp)
theorem w_Md_readAtom {l : Launch} {G : ag_G} {d N : Nat} {h : ag_H} {a : Nat} (hb : md_ok h a) (hH : 3 ≤ d) {p1 : Int32} {S : MS} {res : Int32 × MS} (hyp : fn_Md_readAtom N p1 S = some res) : ag_Met gc_P l G m_Md_readAtom d [.ref a, .int (p1)] (md_up h a S) (fun v h' => v = none ∧ h' = md_up h a res.2) := by
  obtain ⟨d, rfl, hG⟩ := md_dd hH
  exact ag_met (by decide) rfl (Nat.le_of_ble_eq_true rfl) (ag_dr (ag_d1 rfl (ag_d1 rfl ag_d0)) (w_Md_readAtom_0 hb hG hyp))
def fn_Md_push_0 (N : Nat) (x1 : Int32) (S : MS) : Option (Int32 × MS) := if md_in (S.1 31) (md_len 16) = true then (some (0, (va_up (S.1, va_up S.2 16 (upd (S.2 16) (S.1 31).toNatClampNeg (x1))).1 31 (((S.1, va_up S.2 16 (upd (S.2 16) (S.1 31).toNatClampNeg (x1))).1 31) + (Int32.ofInt 1)), (S.1, va_up S.2 16 (upd (S.2 16) (S.1 31).toNatClampNeg (x1))).2))) else none
def fn_Md_push (N : Nat) (p1 : Int32) (S : MS) : Option (Int32 × MS) := fn_Md_push_0 N p1 S
theorem w_Md_push_0 {l : Launch} {G : ag_G} {d N : Nat} {h : ag_H} {a : Nat} (hb : md_ok h a) {x1 : Int32} {S : MS} {res : Int32 × MS} (hyp : fn_Md_push_0 N x1 S = some res) : ag_ev gc_P l G m_Md_push (d) (ag_ret gc_P G (fun v h' => v = none ∧ h' = md_up h a res.2)) 0 [(0, .ref a), (1, .int (x1))] [] (md_up h a S) := by
  unfold fn_Md_push_0 at hyp
  refine ag_aload_n d_Md_push_0 rfl ?_
  refine md_get hb d_Md_push_1 fr_Md_66 rfl ?_
  refine ag_aload_n d_Md_push_4 rfl ?_
  refine md_get hb d_Md_push_5 fr_Md_147 rfl ?_
  refine ag_iload_n d_Md_push_8 rfl ?_
  obtain ⟨qi, hyp⟩ := md_ifs hyp
  refine md_ast hb d_Md_push_9 (by decide) (by decide) rfl qi ?_
  refine ag_aload_n d_Md_push_10 rfl ?_
  refine ag_dup d_Md_push_11 rfl ?_
  refine md_get hb d_Md_push_12 fr_Md_147 rfl ?_
  refine ag_iconst d_Md_push_15 ?_
  refine ag_iadd d_Md_push_16 ?_
  refine md_puti hb d_Md_push_17 fl_Md_147 rfl (by decide) rfl rfl ?_
  cases hyp
  exact ag_vret d_Md_push_20 rfl ⟨rfl, rfl⟩
theorem w_Md_push {l : Launch} {G : ag_G} {d N : Nat} {h : ag_H} {a : Nat} (hb : md_ok h a) (hH : 0 ≤ d) {p1 : Int32} {S : MS} {res : Int32 × MS} (hyp : fn_Md_push N p1 S = some res) : ag_Met gc_P l G m_Md_push d [.ref a, .int (p1)] (md_up h a S) (fun v h' => v = none ∧ h' = md_up h a res.2) := by
  exact ag_met (by decide) rfl (Nat.le_of_ble_eq_true rfl) (ag_dr (ag_d1 rfl (ag_d1 rfl ag_d0)) (w_Md_push_0 hb hyp))
def fn_Md_emit_0 (N : Nat) (x1 : Int32) (S : MS) : Option (Int32 × MS) := if md_in (S.1 19) (md_len 14) = true then (if md_in ((((Int8.ofInt (48)).toInt32) * (S.1 19)) + (S.2 14 (S.1 19).toNatClampNeg)) (md_len 15) = true then (if md_in ((S.1, va_up S.2 15 (upd (S.2 15) ((((Int8.ofInt (48)).toInt32) * (S.1 19)) + (S.2 14 (S.1 19).toNatClampNeg)).toNatClampNeg (x1))).1 19) (md_len 14) = true then (if md_in ((S.1, va_up S.2 15 (upd (S.2 15) ((((Int8.ofInt (48)).toInt32) * (S.1 19)) + (S.2 14 (S.1 19).toNatClampNeg)).toNatClampNeg (x1))).1 19) (md_len 14) = true then (some (0, ((S.1, va_up S.2 15 (upd (S.2 15) ((((Int8.ofInt (48)).toInt32) * (S.1 19)) + (S.2 14 (S.1 19).toNatClampNeg)).toNatClampNeg (x1))).1, va_up (S.1, va_up S.2 15 (upd (S.2 15) ((((Int8.ofInt (48)).toInt32) * (S.1 19)) + (S.2 14 (S.1 19).toNatClampNeg)).toNatClampNeg (x1))).2 14 (upd ((S.1, va_up S.2 15 (upd (S.2 15) ((((Int8.ofInt (48)).toInt32) * (S.1 19)) + (S.2 14 (S.1 19).toNatClampNeg)).toNatClampNeg (x1))).2 14) ((S.1, va_up S.2 15 (upd (S.2 15) ((((Int8.ofInt (48)).toInt32) * (S.1 19)) + (S.2 14 (S.1 19).toNatClampNeg)).toNatClampNeg (x1))).1 19).toNatClampNeg (((S.1, va_up S.2 15 (upd (S.2 15) ((((Int8.ofInt (48)).toInt32) * (S.1 19)) + (S.2 14 (S.1 19).toNatClampNeg)).toNatClampNeg (x1))).2 14 ((S.1, va_up S.2 15 (upd (S.2 15) ((((Int8.ofInt (48)).toInt32) * (S.1 19)) + (S.2 14 (S.1 19).toNatClampNeg)).toNatClampNeg (x1))).1 19).toNatClampNeg) + (Int32.ofInt 1)))))) else none) else none) else none) else none
def fn_Md_emit (N : Nat) (p1 : Int32) (S : MS) : Option (Int32 × MS) := fn_Md_emit_0 N p1 S
theorem w_Md_emit_0 {l : Launch} {G : ag_G} {d N : Nat} {h : ag_H} {a : Nat} (hb : md_ok h a) {x1 : Int32} {S : MS} {res : Int32 × MS} (hyp : fn_Md_emit_0 N x1 S = some res) : ag_ev gc_P l G m_Md_emit (d) (ag_ret gc_P G (fun v h' => v = none ∧ h' = md_up h a res.2)) 0 [(0, .ref a), (1, .int (x1))] [] (md_up h a S) := by
  unfold fn_Md_emit_0 at hyp
  refine ag_aload_n d_Md_emit_0 rfl ?_
  refine md_get hb d_Md_emit_1 fr_Md_63 rfl ?_
  refine ag_bipush d_Md_emit_4 ?_
  refine ag_aload_n d_Md_emit_6 rfl ?_
  refine md_get hb d_Md_emit_7 fr_Md_112 rfl ?_
  refine ag_imul d_Md_emit_10 ?_
  refine ag_aload_n d_Md_emit_11 rfl ?_
  refine md_get hb d_Md_emit_12 fr_Md_60 rfl ?_
  refine ag_aload_n d_Md_emit_15 rfl ?_
  refine md_get hb d_Md_emit_16 fr_Md_112 rfl ?_
  obtain ⟨qi, hyp⟩ := md_ifs hyp
  refine md_ald hb d_Md_emit_19 (by decide) (by decide) rfl qi ?_
  refine ag_iadd d_Md_emit_20 ?_
  refine ag_iload_n d_Md_emit_21 rfl ?_
  obtain ⟨qi, hyp⟩ := md_ifs hyp
  refine md_ast hb d_Md_emit_22 (by decide) (by decide) rfl qi ?_
  refine ag_aload_n d_Md_emit_23 rfl ?_
  refine md_get hb d_Md_emit_24 fr_Md_60 rfl ?_
  refine ag_aload_n d_Md_emit_27 rfl ?_
  refine md_get hb d_Md_emit_28 fr_Md_112 rfl ?_
  refine ag_dup2 d_Md_emit_31 rfl rfl ?_
  obtain ⟨qi, hyp⟩ := md_ifs hyp
  refine md_ald hb d_Md_emit_32 (by decide) (by decide) rfl qi ?_
  refine ag_iconst d_Md_emit_33 ?_
  refine ag_iadd d_Md_emit_34 ?_
  obtain ⟨qi, hyp⟩ := md_ifs hyp
  refine md_ast hb d_Md_emit_35 (by decide) (by decide) rfl qi ?_
  cases hyp
  exact ag_vret d_Md_emit_36 rfl ⟨rfl, rfl⟩
theorem w_Md_emit {l : Launch} {G : ag_G} {d N : Nat} {h : ag_H} {a : Nat} (hb : md_ok h a) (hH : 0 ≤ d) {p1 : Int32} {S : MS} {res : Int32 × MS} (hyp : fn_Md_emit N p1 S = some res) : ag_Met gc_P l G m_Md_emit d [.ref a, .int (p1)] (md_up h a S) (fun v h' => v = none ∧ h' = md_up h a res.2) := by
  exact ag_met (by decide) rfl (Nat.le_of_ble_eq_true rfl) (ag_dr (ag_d1 rfl (ag_d1 rfl ag_d0)) (w_Md_emit_0 hb hyp))
