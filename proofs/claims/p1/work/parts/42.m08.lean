/-! Md_fact, Md_token, Md_count -/
def fn_Md_fact_111 (N : Nat) (S : MS) : Option (Int32 × MS) := some ((Int32.ofInt 0), S)
def fn_Md_fact_79 (N : Nat) (k32 : Int32 → Int32 → Int32 → MS → Option (Int32 × MS)) (k53 : Int32 → Int32 → Int32 → Int32 → Int32 → MS → Option (Int32 × MS)) (x1 : Int32) (x2 : Int32) (x3 : Int32) (x5 : Int32) (s0 : Int32) (s1 : Int32) (S : MS) : Option (Int32 × MS) := k53 (x1) (x2) (x3) ((s0) + (s1)) ((x5) + Int32.ofInt (1)) S
def fn_Md_fact_53 (N : Nat) (k32 : Int32 → Int32 → Int32 → MS → Option (Int32 × MS)) : Nat → Int32 → Int32 → Int32 → Int32 → Int32 → MS → Option (Int32 × MS)
  | 0, _, _, _, _, _, _ => none
  | n + 1, x1, x2, x3, x4, x5, S => if (S.1 32) ≤ (x5) then (if (x4) = (x1) then (if md_in (((Int32.ofInt 5) * (x3)) + (x2)) (md_len 17) = true then (some ((S.2 17 (((Int32.ofInt 5) * (x3)) + (x2)).toNatClampNeg), S)) else none) else (k32 (x1) (x2) ((x3) + Int32.ofInt (1)) S)) else ((fn_Md_before N (x5) (x3) S).bind fun r1 => if (r1.1) = (0) then (fn_Md_fact_79 N k32 (fn_Md_fact_53 N k32 n) (x1) (x2) (x3) (x5) (x4) (Int32.ofInt 0) r1.2) else (fn_Md_fact_79 N k32 (fn_Md_fact_53 N k32 n) (x1) (x2) (x3) (x5) (x4) (Int32.ofInt 1) r1.2))
theorem fe_Md_fact_53 (N : Nat) (k32 : Int32 → Int32 → Int32 → MS → Option (Int32 × MS)) (n : Nat) (x1 : Int32) (x2 : Int32) (x3 : Int32) (x4 : Int32) (x5 : Int32) (S : MS) : fn_Md_fact_53 N k32 (n + 1) x1 x2 x3 x4 x5 S = (if (S.1 32) ≤ (x5) then (if (x4) = (x1) then (if md_in (((Int32.ofInt 5) * (x3)) + (x2)) (md_len 17) = true then (some ((S.2 17 (((Int32.ofInt 5) * (x3)) + (x2)).toNatClampNeg), S)) else none) else (k32 (x1) (x2) ((x3) + Int32.ofInt (1)) S)) else ((fn_Md_before N (x5) (x3) S).bind fun r1 => if (r1.1) = (0) then (fn_Md_fact_79 N k32 (fn_Md_fact_53 N k32 n) (x1) (x2) (x3) (x5) (x4) (Int32.ofInt 0) r1.2) else (fn_Md_fact_79 N k32 (fn_Md_fact_53 N k32 n) (x1) (x2) (x3) (x5) (x4) (Int32.ofInt 1) r1.2))) := rfl
def fn_Md_fact_32 (N : Nat) : Nat → Int32 → Int32 → Int32 → MS → Option (Int32 × MS)
  | 0, _, _, _, _ => none
  | n + 1, x1, x2, x3, S => if (S.1 32) ≤ (x3) then (fn_Md_fact_111 N  S) else (if (S.1 0) = (0) then (fn_Md_fact_53 N (fn_Md_fact_32 N n) N (x1) (x2) (x3) (Int32.ofInt 0) (Int32.ofInt 0) S) else (fn_Md_fact_111 N  S))
theorem fe_Md_fact_32 (N : Nat) (n : Nat) (x1 : Int32) (x2 : Int32) (x3 : Int32) (S : MS) : fn_Md_fact_32 N (n + 1) x1 x2 x3 S = (if (S.1 32) ≤ (x3) then (fn_Md_fact_111 N  S) else (if (S.1 0) = (0) then (fn_Md_fact_53 N (fn_Md_fact_32 N n) N (x1) (x2) (x3) (Int32.ofInt 0) (Int32.ofInt 0) S) else (fn_Md_fact_111 N  S))) := rfl
def fn_Md_fact_27 (N : Nat) (x1 : Int32) (x2 : Int32) (s1 : Int32) (S : MS) : Option (Int32 × MS) := fn_Md_fact_32 N N (x1) (x2) (Int32.ofInt 0) (va_up S.1 0 (s1), S.2)
def fn_Md_fact_22 (N : Nat) (x1 : Int32) (x2 : Int32) (S : MS) : Option (Int32 × MS) := fn_Md_fact_27 N (x1) (x2) (Int32.ofInt 1) S
def fn_Md_fact_0 (N : Nat) (x1 : Int32) (x2 : Int32) (S : MS) : Option (Int32 × MS) := if (x1) < (0) then (fn_Md_fact_22 N (x1) (x2) S) else (if (S.1 32) ≤ (x1) then (fn_Md_fact_22 N (x1) (x2) S) else (if (x2) < (0) then (fn_Md_fact_22 N (x1) (x2) S) else (if (x2) ≤ (Int32.ofInt 4) then (fn_Md_fact_27 N (x1) (x2) (Int32.ofInt 0) S) else (fn_Md_fact_22 N (x1) (x2) S))))
def fn_Md_fact (N : Nat) (p1 : Int32) (p2 : Int32) (S : MS) : Option (Int32 × MS) := fn_Md_fact_0 N p1 p2 S
theorem w_Md_fact_111 {l : Launch} {G : ag_G} {d N : Nat} {h : ag_H} {a : Nat} (hb : md_ok h a) (hH : 0 ≤ d) {S : MS} {res : Int32 × MS} (hyp : fn_Md_fact_111 N S = some res) : ag_ev gc_P l G m_Md_fact (d + 1) (ag_ret gc_P G (fun v h' => v = some (.int res.1) ∧ h' = md_up h a res.2)) 111 [(0, .ref a)] [] (md_up h a S) := by
  unfold fn_Md_fact_111 at hyp
  refine ag_iconst d_Md_fact_111 ?_
  cases hyp
  exact ag_iret d_Md_fact_112 rfl rfl ⟨rfl, rfl⟩
theorem w_Md_fact_79 {l : Launch} {G : ag_G} {d N : Nat} {h : ag_H} {a : Nat} (hb : md_ok h a) (hH : 0 ≤ d) {k32 : Int32 → Int32 → Int32 → MS → Option (Int32 × MS)} {k53 : Int32 → Int32 → Int32 → Int32 → Int32 → MS → Option (Int32 × MS)} (hk32 : ∀ (res : Int32 × MS) (y1 : Int32) (y2 : Int32) (y3 : Int32) (T : MS), k32 y1 y2 y3 T = some res → ag_ev gc_P l G m_Md_fact (d + 1) (ag_ret gc_P G (fun v h' => v = some (.int res.1) ∧ h' = md_up h a res.2)) 32 [(0, .ref a), (1, .int (y1)), (2, .int (y2)), (3, .int (y3))] [] (md_up h a T)) (hk53 : ∀ (res : Int32 × MS) (y1 : Int32) (y2 : Int32) (y3 : Int32) (y4 : Int32) (y5 : Int32) (T : MS), k53 y1 y2 y3 y4 y5 T = some res → ag_ev gc_P l G m_Md_fact (d + 1) (ag_ret gc_P G (fun v h' => v = some (.int res.1) ∧ h' = md_up h a res.2)) 53 [(0, .ref a), (1, .int (y1)), (2, .int (y2)), (3, .int (y3)), (4, .int (y4)), (5, .int (y5))] [] (md_up h a T)) {x1 : Int32} {x2 : Int32} {x3 : Int32} {x5 : Int32} {s0 : Int32} {s1 : Int32} {S : MS} {res : Int32 × MS} (hyp : fn_Md_fact_79 N k32 k53 x1 x2 x3 x5 s0 s1 S = some res) : ag_ev gc_P l G m_Md_fact (d + 1) (ag_ret gc_P G (fun v h' => v = some (.int res.1) ∧ h' = md_up h a res.2)) 79 [(0, .ref a), (1, .int (x1)), (2, .int (x2)), (3, .int (x3)), (5, .int (x5))] [.int (s1), .int (s0)] (md_up h a S) := by
  unfold fn_Md_fact_79 at hyp
  refine ag_iadd d_Md_fact_79 ?_
  refine ag_istore d_Md_fact_80 (by decide) ?_
  refine ag_iinc d_Md_fact_82 rfl (by decide) ?_
  refine ag_goto d_Md_fact_85 rfl ?_
  exact ag_dr (ag_d1 rfl (ag_d1 rfl (ag_d1 rfl (ag_d1 rfl (ag_d1 rfl (ag_d1 rfl ag_d0)))))) (hk53 _ _ _ _ _ _ _ hyp)
theorem w_Md_fact_53 {l : Launch} {G : ag_G} {d N : Nat} {h : ag_H} {a : Nat} (hb : md_ok h a) (hH : 0 ≤ d) {k32 : Int32 → Int32 → Int32 → MS → Option (Int32 × MS)} (hk32 : ∀ (res : Int32 × MS) (y1 : Int32) (y2 : Int32) (y3 : Int32) (T : MS), k32 y1 y2 y3 T = some res → ag_ev gc_P l G m_Md_fact (d + 1) (ag_ret gc_P G (fun v h' => v = some (.int res.1) ∧ h' = md_up h a res.2)) 32 [(0, .ref a), (1, .int (y1)), (2, .int (y2)), (3, .int (y3))] [] (md_up h a T)) : ∀ (n : Nat) (res : Int32 × MS) (x1 : Int32) (x2 : Int32) (x3 : Int32) (x4 : Int32) (x5 : Int32) (S : MS) , fn_Md_fact_53 N k32 n x1 x2 x3 x4 x5 S = some res → ag_ev gc_P l G m_Md_fact (d + 1) (ag_ret gc_P G (fun v h' => v = some (.int res.1) ∧ h' = md_up h a res.2)) 53 [(0, .ref a), (1, .int (x1)), (2, .int (x2)), (3, .int (x3)), (4, .int (x4)), (5, .int (x5))] [] (md_up h a S) := by
  intro n
  induction n with
  | zero =>
    intro res x1 x2 x3 x4 x5 S hyp
    cases hyp
  | succ n ih =>
    intro res x1 x2 x3 x4 x5 S hyp
    rw [fe_Md_fact_53] at hyp
    refine ag_iload d_Md_fact_53 rfl ?_
    refine ag_aload_n d_Md_fact_55 rfl ?_
    refine md_get hb d_Md_fact_56 fr_Md_202 rfl ?_
    refine ag_icmp_ge d_Md_fact_59 rfl (fun q => ?_) (fun q => ?_)
    · replace hyp := md_ifp q hyp
      refine ag_iload d_Md_fact_88 rfl ?_
      refine ag_iload_n d_Md_fact_90 rfl ?_
      refine ag_icmp_ne d_Md_fact_91 rfl (fun q => ?_) (fun q => ?_)
      · replace hyp := md_ifn q hyp
        refine ag_iinc d_Md_fact_105 rfl (by decide) ?_
        refine ag_goto d_Md_fact_108 rfl ?_
        exact ag_dr (ag_d1 rfl (ag_d1 rfl (ag_d1 rfl (ag_d1 rfl ag_d0)))) (hk32 _ _ _ _ _ hyp)
      · replace hyp := md_ifp q hyp
        refine ag_aload_n d_Md_fact_94 rfl ?_
        refine md_get hb d_Md_fact_95 fr_Md_69 rfl ?_
        refine ag_iconst d_Md_fact_98 ?_
        refine ag_iload_n d_Md_fact_99 rfl ?_
        refine ag_imul d_Md_fact_100 ?_
        refine ag_iload_n d_Md_fact_101 rfl ?_
        refine ag_iadd d_Md_fact_102 ?_
        obtain ⟨qi, hyp⟩ := md_ifs hyp
        refine md_ald hb d_Md_fact_103 (by decide) (by decide) rfl qi ?_
        cases hyp
        exact ag_iret d_Md_fact_104 rfl rfl ⟨rfl, rfl⟩
    · replace hyp := md_ifn q hyp
      refine ag_iload d_Md_fact_62 rfl ?_
      refine ag_aload_n d_Md_fact_64 rfl ?_
      refine ag_iload d_Md_fact_65 rfl ?_
      refine ag_iload_n d_Md_fact_67 rfl ?_
      obtain ⟨r1, e1, hyp⟩ := md_bd hyp
      refine ag_callv (as := [.int (x5), .int (x3)]) d_Md_fact_68 ml_Md_283 gw_1287 rfl sl_Md_before (md_at0 hb _) (Nat.le_of_ble_eq_true rfl) (w_Md_before hb (d := d) (by omega) e1) (fun v1 h1 q1 => ?_)
      obtain ⟨rfl, rfl⟩ := q1
      refine ag_if_eq d_Md_fact_71 rfl (fun q => ?_) (fun q => ?_)
      · replace hyp := md_ifp q hyp
        refine ag_iconst d_Md_fact_78 ?_
        exact ag_dr (ag_d1 rfl (ag_d1 rfl (ag_d1 rfl (ag_d1 rfl (ag_d1 rfl ag_d0))))) (w_Md_fact_79 hb hH hk32 ih hyp)
      · replace hyp := md_ifn q hyp
        refine ag_iconst d_Md_fact_74 ?_
        refine ag_goto d_Md_fact_75 rfl ?_
        exact ag_dr (ag_d1 rfl (ag_d1 rfl (ag_d1 rfl (ag_d1 rfl (ag_d1 rfl ag_d0))))) (w_Md_fact_79 hb hH hk32 ih hyp)
theorem w_Md_fact_32 {l : Launch} {G : ag_G} {d N : Nat} {h : ag_H} {a : Nat} (hb : md_ok h a) (hH : 0 ≤ d) : ∀ (n : Nat) (res : Int32 × MS) (x1 : Int32) (x2 : Int32) (x3 : Int32) (S : MS) , fn_Md_fact_32 N n x1 x2 x3 S = some res → ag_ev gc_P l G m_Md_fact (d + 1) (ag_ret gc_P G (fun v h' => v = some (.int res.1) ∧ h' = md_up h a res.2)) 32 [(0, .ref a), (1, .int (x1)), (2, .int (x2)), (3, .int (x3))] [] (md_up h a S) := by
  intro n
  induction n with
  | zero =>
    intro res x1 x2 x3 S hyp
    cases hyp
  | succ n ih =>
    intro res x1 x2 x3 S hyp
    rw [fe_Md_fact_32] at hyp
    refine ag_iload_n d_Md_fact_32 rfl ?_
    refine ag_aload_n d_Md_fact_33 rfl ?_
    refine md_get hb d_Md_fact_34 fr_Md_202 rfl ?_
    refine ag_icmp_ge d_Md_fact_37 rfl (fun q => ?_) (fun q => ?_)
    · replace hyp := md_ifp q hyp
      exact ag_dr (ag_d1 rfl ag_d0) (w_Md_fact_111 hb hH hyp)
    · replace hyp := md_ifn q hyp
      refine ag_aload_n d_Md_fact_40 rfl ?_
      refine md_get hb d_Md_fact_41 fr_Md_84 rfl ?_
      refine ag_if_ne d_Md_fact_44 rfl (fun q => ?_) (fun q => ?_)
      · replace hyp := md_ifn q hyp
        exact ag_dr (ag_d1 rfl ag_d0) (w_Md_fact_111 hb hH hyp)
      · replace hyp := md_ifp q hyp
        refine ag_iconst d_Md_fact_47 ?_
        refine ag_istore d_Md_fact_48 (by decide) ?_
        refine ag_iconst d_Md_fact_50 ?_
        refine ag_istore d_Md_fact_51 (by decide) ?_
        exact ag_dr (ag_d1 rfl (ag_d1 rfl (ag_d1 rfl (ag_d1 rfl (ag_d1 rfl (ag_d1 rfl ag_d0)))))) (w_Md_fact_53 hb hH ih N _ _ _ _ _ _ _ hyp)
theorem w_Md_fact_27 {l : Launch} {G : ag_G} {d N : Nat} {h : ag_H} {a : Nat} (hb : md_ok h a) (hH : 0 ≤ d) {x1 : Int32} {x2 : Int32} {s1 : Int32} {S : MS} {res : Int32 × MS} (hyp : fn_Md_fact_27 N x1 x2 s1 S = some res) : ag_ev gc_P l G m_Md_fact (d + 1) (ag_ret gc_P G (fun v h' => v = some (.int res.1) ∧ h' = md_up h a res.2)) 27 [(0, .ref a), (1, .int (x1)), (2, .int (x2))] [.int (s1), .ref a] (md_up h a S) := by
  unfold fn_Md_fact_27 at hyp
  refine md_puti hb d_Md_fact_27 fl_Md_84 rfl (by decide) rfl rfl ?_
  refine ag_iconst d_Md_fact_30 ?_
  refine ag_istore_n d_Md_fact_31 (by decide) ?_
  exact ag_dr (ag_d1 rfl (ag_d1 rfl (ag_d1 rfl (ag_d1 rfl ag_d0)))) (w_Md_fact_32 hb hH N _ _ _ _ _ hyp)
theorem w_Md_fact_22 {l : Launch} {G : ag_G} {d N : Nat} {h : ag_H} {a : Nat} (hb : md_ok h a) (hH : 0 ≤ d) {x1 : Int32} {x2 : Int32} {S : MS} {res : Int32 × MS} (hyp : fn_Md_fact_22 N x1 x2 S = some res) : ag_ev gc_P l G m_Md_fact (d + 1) (ag_ret gc_P G (fun v h' => v = some (.int res.1) ∧ h' = md_up h a res.2)) 22 [(0, .ref a), (1, .int (x1)), (2, .int (x2))] [.ref a] (md_up h a S) := by
  unfold fn_Md_fact_22 at hyp
  refine ag_iconst d_Md_fact_22 ?_
  refine ag_goto d_Md_fact_23 rfl ?_
  exact ag_dr (ag_d1 rfl (ag_d1 rfl (ag_d1 rfl ag_d0))) (w_Md_fact_27 hb hH hyp)
theorem w_Md_fact_0 {l : Launch} {G : ag_G} {d N : Nat} {h : ag_H} {a : Nat} (hb : md_ok h a) (hH : 0 ≤ d) {x1 : Int32} {x2 : Int32} {S : MS} {res : Int32 × MS} (hyp : fn_Md_fact_0 N x1 x2 S = some res) : ag_ev gc_P l G m_Md_fact (d + 1) (ag_ret gc_P G (fun v h' => v = some (.int res.1) ∧ h' = md_up h a res.2)) 0 [(0, .ref a), (1, .int (x1)), (2, .int (x2))] [] (md_up h a S) := by
  unfold fn_Md_fact_0 at hyp
  refine ag_aload_n d_Md_fact_0 rfl ?_
  refine ag_iload_n d_Md_fact_1 rfl ?_
  refine ag_if_lt d_Md_fact_2 rfl (fun q => ?_) (fun q => ?_)
  · replace hyp := md_ifp q hyp
    exact ag_dr (ag_d1 rfl (ag_d1 rfl (ag_d1 rfl ag_d0))) (w_Md_fact_22 hb hH hyp)
  · replace hyp := md_ifn q hyp
    refine ag_iload_n d_Md_fact_5 rfl ?_
    refine ag_aload_n d_Md_fact_6 rfl ?_
    refine md_get hb d_Md_fact_7 fr_Md_202 rfl ?_
    refine ag_icmp_ge d_Md_fact_10 rfl (fun q => ?_) (fun q => ?_)
    · replace hyp := md_ifp q hyp
      exact ag_dr (ag_d1 rfl (ag_d1 rfl (ag_d1 rfl ag_d0))) (w_Md_fact_22 hb hH hyp)
    · replace hyp := md_ifn q hyp
      refine ag_iload_n d_Md_fact_13 rfl ?_
      refine ag_if_lt d_Md_fact_14 rfl (fun q => ?_) (fun q => ?_)
      · replace hyp := md_ifp q hyp
        exact ag_dr (ag_d1 rfl (ag_d1 rfl (ag_d1 rfl ag_d0))) (w_Md_fact_22 hb hH hyp)
      · replace hyp := md_ifn q hyp
        refine ag_iload_n d_Md_fact_17 rfl ?_
        refine ag_iconst d_Md_fact_18 ?_
        refine ag_icmp_le d_Md_fact_19 rfl (fun q => ?_) (fun q => ?_)
        · replace hyp := md_ifp q hyp
          refine ag_iconst d_Md_fact_26 ?_
          exact ag_dr (ag_d1 rfl (ag_d1 rfl (ag_d1 rfl ag_d0))) (w_Md_fact_27 hb hH hyp)
        · replace hyp := md_ifn q hyp
          exact ag_dr (ag_d1 rfl (ag_d1 rfl (ag_d1 rfl ag_d0))) (w_Md_fact_22 hb hH hyp)
theorem w_Md_fact {l : Launch} {G : ag_G} {d N : Nat} {h : ag_H} {a : Nat} (hb : md_ok h a) (hH : 1 ≤ d) {p1 : Int32} {p2 : Int32} {S : MS} {res : Int32 × MS} (hyp : fn_Md_fact N p1 p2 S = some res) : ag_Met gc_P l G m_Md_fact d [.ref a, .int (p1), .int (p2)] (md_up h a S) (fun v h' => v = some (.int res.1) ∧ h' = md_up h a res.2) := by
  obtain ⟨d, rfl, hG⟩ := md_dd hH
  exact ag_met (by decide) rfl (Nat.le_of_ble_eq_true rfl) (ag_dr (ag_d1 rfl (ag_d1 rfl (ag_d1 rfl ag_d0))) (w_Md_fact_0 hb hG hyp))
def fn_Md_token_133 (N : Nat) (s0 : Int32) (S : MS) : Option (Int32 × MS) := some ((s0), S)
def fn_Md_token_62 (N : Nat) (x1 : Int32) (x2 : Int32) (x3 : Int32) (x4 : Int32) (s1 : Int32) (S : MS) : Option (Int32 × MS) := if (x4) = (0) then (some ((Int32.ofInt 0), (va_up S.1 0 (s1), S.2))) else (if (x2) = (0) then (if md_in (x1) (md_len 4) = true then (fn_Md_token_133 N ((va_up S.1 0 (s1), S.2).2 4 (x1).toNatClampNeg) (va_up S.1 0 (s1), S.2)) else none) else (if (x2) = (Int32.ofInt 1) then (if md_in (x1) (md_len 6) = true then (if ((va_up S.1 0 (s1), S.2).2 6 (x1).toNatClampNeg) = (0) then (fn_Md_token_133 N (Int32.ofInt 0) (va_up S.1 0 (s1), S.2)) else (fn_Md_token_133 N (Int32.ofInt 1) (va_up S.1 0 (s1), S.2))) else none) else (if (x2) = (Int32.ofInt 2) then (if md_in (x1) (md_len 7) = true then (fn_Md_token_133 N ((va_up S.1 0 (s1), S.2).2 7 (x1).toNatClampNeg) (va_up S.1 0 (s1), S.2)) else none) else (if ¬ ((Int8.ofInt (10)).toInt32) = 0 then ((fn_Md_link N (x1) (x3) (((x2) / ((Int8.ofInt (10)).toInt32)) - (Int32.ofInt 1)) (va_up S.1 0 (s1), S.2)).bind fun r1 => fn_Md_token_133 N (r1.1) r1.2) else none))))
def fn_Md_token_49 (N : Nat) (x1 : Int32) (x2 : Int32) (x3 : Int32) (s0 : Int32) (S : MS) : Option (Int32 × MS) := if (s0) = (0) then (fn_Md_token_62 N (x1) (x2) (x3) (s0) (Int32.ofInt 1) S) else (fn_Md_token_62 N (x1) (x2) (x3) (s0) (Int32.ofInt 0) S)
def fn_Md_token_48 (N : Nat) (x1 : Int32) (x2 : Int32) (x3 : Int32) (S : MS) : Option (Int32 × MS) := fn_Md_token_49 N (x1) (x2) (x3) (Int32.ofInt 0) S
def fn_Md_token_44 (N : Nat) (x1 : Int32) (x2 : Int32) (x3 : Int32) (S : MS) : Option (Int32 × MS) := fn_Md_token_49 N (x1) (x2) (x3) (Int32.ofInt 1) S
def fn_Md_token_22 (N : Nat) (x1 : Int32) (x2 : Int32) (x3 : Int32) (S : MS) : Option (Int32 × MS) := if (x2) < ((Int8.ofInt (10)).toInt32) then (fn_Md_token_48 N (x1) (x2) (x3) S) else (if ((Int8.ofInt (40)).toInt32) ≤ (x2) then (fn_Md_token_48 N (x1) (x2) (x3) S) else (if md_in (x1) (md_len 4) = true then (if (S.2 4 (x1).toNatClampNeg) ≤ (x3) then (fn_Md_token_48 N (x1) (x2) (x3) S) else (fn_Md_token_44 N (x1) (x2) (x3) S)) else none))
def fn_Md_token_0 (N : Nat) (x1 : Int32) (x2 : Int32) (S : MS) : Option (Int32 × MS) := if ¬ ((Int8.ofInt (10)).toInt32) = 0 then ((fn_Md_isToken N (x1) S).bind fun r1 => if (r1.1) = (0) then (fn_Md_token_48 N (x1) (x2) ((x2) - (x2) / ((Int8.ofInt (10)).toInt32) * ((Int8.ofInt (10)).toInt32)) r1.2) else (if (x2) < (0) then (fn_Md_token_22 N (x1) (x2) ((x2) - (x2) / ((Int8.ofInt (10)).toInt32) * ((Int8.ofInt (10)).toInt32)) r1.2) else (if (x2) < (Int32.ofInt 3) then (fn_Md_token_44 N (x1) (x2) ((x2) - (x2) / ((Int8.ofInt (10)).toInt32) * ((Int8.ofInt (10)).toInt32)) r1.2) else (fn_Md_token_22 N (x1) (x2) ((x2) - (x2) / ((Int8.ofInt (10)).toInt32) * ((Int8.ofInt (10)).toInt32)) r1.2)))) else none
def fn_Md_token (N : Nat) (p1 : Int32) (p2 : Int32) (S : MS) : Option (Int32 × MS) := fn_Md_token_0 N p1 p2 S
theorem w_Md_token_133 {l : Launch} {G : ag_G} {d N : Nat} {h : ag_H} {a : Nat} (hb : md_ok h a) (hH : 0 ≤ d) {s0 : Int32} {S : MS} {res : Int32 × MS} (hyp : fn_Md_token_133 N s0 S = some res) : ag_ev gc_P l G m_Md_token (d + 1) (ag_ret gc_P G (fun v h' => v = some (.int res.1) ∧ h' = md_up h a res.2)) 133 [(0, .ref a)] [.int (s0)] (md_up h a S) := by
  unfold fn_Md_token_133 at hyp
  cases hyp
  exact ag_iret d_Md_token_133 rfl rfl ⟨rfl, rfl⟩
theorem w_Md_token_62 {l : Launch} {G : ag_G} {d N : Nat} {h : ag_H} {a : Nat} (hb : md_ok h a) (hH : 0 ≤ d) {x1 : Int32} {x2 : Int32} {x3 : Int32} {x4 : Int32} {s1 : Int32} {S : MS} {res : Int32 × MS} (hyp : fn_Md_token_62 N x1 x2 x3 x4 s1 S = some res) : ag_ev gc_P l G m_Md_token (d + 1) (ag_ret gc_P G (fun v h' => v = some (.int res.1) ∧ h' = md_up h a res.2)) 62 [(0, .ref a), (1, .int (x1)), (2, .int (x2)), (3, .int (x3)), (4, .int (x4))] [.int (s1), .ref a] (md_up h a S) := by
  unfold fn_Md_token_62 at hyp
  refine md_puti hb d_Md_token_62 fl_Md_84 rfl (by decide) rfl rfl ?_
  refine ag_iload d_Md_token_65 rfl ?_
  refine ag_if_ne d_Md_token_67 rfl (fun q => ?_) (fun q => ?_)
  · replace hyp := md_ifn q hyp
    refine ag_iload_n d_Md_token_72 rfl ?_
    refine ag_if_ne d_Md_token_73 rfl (fun q => ?_) (fun q => ?_)
    · replace hyp := md_ifn q hyp
      refine ag_iload_n d_Md_token_85 rfl ?_
      refine ag_iconst d_Md_token_86 ?_
      refine ag_icmp_ne d_Md_token_87 rfl (fun q => ?_) (fun q => ?_)
      · replace hyp := md_ifn q hyp
        refine ag_iload_n d_Md_token_107 rfl ?_
        refine ag_iconst d_Md_token_108 ?_
        refine ag_icmp_ne d_Md_token_109 rfl (fun q => ?_) (fun q => ?_)
        · replace hyp := md_ifn q hyp
          refine ag_aload_n d_Md_token_121 rfl ?_
          refine ag_iload_n d_Md_token_122 rfl ?_
          refine ag_iload_n d_Md_token_123 rfl ?_
          refine ag_iload_n d_Md_token_124 rfl ?_
          refine ag_bipush d_Md_token_125 ?_
          obtain ⟨qz, hyp⟩ := md_ifs hyp
          refine ag_idiv d_Md_token_127 qz ?_
          refine ag_iconst d_Md_token_128 ?_
          refine ag_isub d_Md_token_129 ?_
          obtain ⟨r1, e1, hyp⟩ := md_bd hyp
          refine ag_callv (as := [.int (x1), .int (x3), .int (((x2) / ((Int8.ofInt (10)).toInt32)) - (Int32.ofInt 1))]) d_Md_token_130 ml_Md_198 gw_1210 rfl sl_Md_link (md_at0 hb _) (Nat.le_of_ble_eq_true rfl) (w_Md_link hb (d := d) (by omega) e1) (fun v1 h1 q1 => ?_)
          obtain ⟨rfl, rfl⟩ := q1
          exact ag_dr (ag_d1 rfl ag_d0) (w_Md_token_133 hb hH hyp)
        · replace hyp := md_ifp q hyp
          refine ag_aload_n d_Md_token_112 rfl ?_
          refine md_get hb d_Md_token_113 fr_Md_39 rfl ?_
          refine ag_iload_n d_Md_token_116 rfl ?_
          obtain ⟨qi, hyp⟩ := md_ifs hyp
          refine md_ald hb d_Md_token_117 (by decide) (by decide) rfl qi ?_
          refine ag_goto d_Md_token_118 rfl ?_
          exact ag_dr (ag_d1 rfl ag_d0) (w_Md_token_133 hb hH hyp)
      · replace hyp := md_ifp q hyp
        refine ag_aload_n d_Md_token_90 rfl ?_
        refine md_get hb d_Md_token_91 fr_Md_35 rfl ?_
        refine ag_iload_n d_Md_token_94 rfl ?_
        obtain ⟨qi, hyp⟩ := md_ifs hyp
        refine md_zald hb d_Md_token_95 (by decide) (by decide) rfl qi ?_
        refine ag_if_eq d_Md_token_96 rfl (fun q => ?_) (fun q => ?_)
        · replace hyp := md_ifp q hyp
          refine ag_iconst d_Md_token_103 ?_
          refine ag_goto d_Md_token_104 rfl ?_
          exact ag_dr (ag_d1 rfl ag_d0) (w_Md_token_133 hb hH hyp)
        · replace hyp := md_ifn q hyp
          refine ag_iconst d_Md_token_99 ?_
          refine ag_goto d_Md_token_100 rfl ?_
          exact ag_dr (ag_d1 rfl ag_d0) (w_Md_token_133 hb hH hyp)
    · replace hyp := md_ifp q hyp
      refine ag_aload_n d_Md_token_76 rfl ?_
      refine md_get hb d_Md_token_77 fr_Md_29 rfl ?_
      refine ag_iload_n d_Md_token_80 rfl ?_
      obtain ⟨qi, hyp⟩ := md_ifs hyp
      refine md_ald hb d_Md_token_81 (by decide) (by decide) rfl qi ?_
      refine ag_goto d_Md_token_82 rfl ?_
      exact ag_dr (ag_d1 rfl ag_d0) (w_Md_token_133 hb hH hyp)
  · replace hyp := md_ifp q hyp
    refine ag_iconst d_Md_token_70 ?_
    cases hyp
    exact ag_iret d_Md_token_71 rfl rfl ⟨rfl, rfl⟩
theorem w_Md_token_49 {l : Launch} {G : ag_G} {d N : Nat} {h : ag_H} {a : Nat} (hb : md_ok h a) (hH : 0 ≤ d) {x1 : Int32} {x2 : Int32} {x3 : Int32} {s0 : Int32} {S : MS} {res : Int32 × MS} (hyp : fn_Md_token_49 N x1 x2 x3 s0 S = some res) : ag_ev gc_P l G m_Md_token (d + 1) (ag_ret gc_P G (fun v h' => v = some (.int res.1) ∧ h' = md_up h a res.2)) 49 [(0, .ref a), (1, .int (x1)), (2, .int (x2)), (3, .int (x3))] [.int (s0)] (md_up h a S) := by
  unfold fn_Md_token_49 at hyp
  refine ag_istore d_Md_token_49 (by decide) ?_
  refine ag_aload_n d_Md_token_51 rfl ?_
  refine ag_iload d_Md_token_52 rfl ?_
  refine ag_if_eq d_Md_token_54 rfl (fun q => ?_) (fun q => ?_)
  · replace hyp := md_ifp q hyp
    refine ag_iconst d_Md_token_61 ?_
    exact ag_dr (ag_d1 rfl (ag_d1 rfl (ag_d1 rfl (ag_d1 rfl (ag_d1 rfl ag_d0))))) (w_Md_token_62 hb hH hyp)
  · replace hyp := md_ifn q hyp
    refine ag_iconst d_Md_token_57 ?_
    refine ag_goto d_Md_token_58 rfl ?_
    exact ag_dr (ag_d1 rfl (ag_d1 rfl (ag_d1 rfl (ag_d1 rfl (ag_d1 rfl ag_d0))))) (w_Md_token_62 hb hH hyp)
theorem w_Md_token_48 {l : Launch} {G : ag_G} {d N : Nat} {h : ag_H} {a : Nat} (hb : md_ok h a) (hH : 0 ≤ d) {x1 : Int32} {x2 : Int32} {x3 : Int32} {S : MS} {res : Int32 × MS} (hyp : fn_Md_token_48 N x1 x2 x3 S = some res) : ag_ev gc_P l G m_Md_token (d + 1) (ag_ret gc_P G (fun v h' => v = some (.int res.1) ∧ h' = md_up h a res.2)) 48 [(0, .ref a), (1, .int (x1)), (2, .int (x2)), (3, .int (x3))] [] (md_up h a S) := by
  unfold fn_Md_token_48 at hyp
  refine ag_iconst d_Md_token_48 ?_
  exact ag_dr (ag_d1 rfl (ag_d1 rfl (ag_d1 rfl (ag_d1 rfl ag_d0)))) (w_Md_token_49 hb hH hyp)
theorem w_Md_token_44 {l : Launch} {G : ag_G} {d N : Nat} {h : ag_H} {a : Nat} (hb : md_ok h a) (hH : 0 ≤ d) {x1 : Int32} {x2 : Int32} {x3 : Int32} {S : MS} {res : Int32 × MS} (hyp : fn_Md_token_44 N x1 x2 x3 S = some res) : ag_ev gc_P l G m_Md_token (d + 1) (ag_ret gc_P G (fun v h' => v = some (.int res.1) ∧ h' = md_up h a res.2)) 44 [(0, .ref a), (1, .int (x1)), (2, .int (x2)), (3, .int (x3))] [] (md_up h a S) := by
  unfold fn_Md_token_44 at hyp
  refine ag_iconst d_Md_token_44 ?_
  refine ag_goto d_Md_token_45 rfl ?_
  exact ag_dr (ag_d1 rfl (ag_d1 rfl (ag_d1 rfl (ag_d1 rfl ag_d0)))) (w_Md_token_49 hb hH hyp)
theorem w_Md_token_22 {l : Launch} {G : ag_G} {d N : Nat} {h : ag_H} {a : Nat} (hb : md_ok h a) (hH : 0 ≤ d) {x1 : Int32} {x2 : Int32} {x3 : Int32} {S : MS} {res : Int32 × MS} (hyp : fn_Md_token_22 N x1 x2 x3 S = some res) : ag_ev gc_P l G m_Md_token (d + 1) (ag_ret gc_P G (fun v h' => v = some (.int res.1) ∧ h' = md_up h a res.2)) 22 [(0, .ref a), (1, .int (x1)), (2, .int (x2)), (3, .int (x3))] [] (md_up h a S) := by
  unfold fn_Md_token_22 at hyp
  refine ag_iload_n d_Md_token_22 rfl ?_
  refine ag_bipush d_Md_token_23 ?_
  refine ag_icmp_lt d_Md_token_25 rfl (fun q => ?_) (fun q => ?_)
  · replace hyp := md_ifp q hyp
    exact ag_dr (ag_d1 rfl (ag_d1 rfl (ag_d1 rfl (ag_d1 rfl ag_d0)))) (w_Md_token_48 hb hH hyp)
  · replace hyp := md_ifn q hyp
    refine ag_iload_n d_Md_token_28 rfl ?_
    refine ag_bipush d_Md_token_29 ?_
    refine ag_icmp_ge d_Md_token_31 rfl (fun q => ?_) (fun q => ?_)
    · replace hyp := md_ifp q hyp
      exact ag_dr (ag_d1 rfl (ag_d1 rfl (ag_d1 rfl (ag_d1 rfl ag_d0)))) (w_Md_token_48 hb hH hyp)
    · replace hyp := md_ifn q hyp
      refine ag_iload_n d_Md_token_34 rfl ?_
      refine ag_aload_n d_Md_token_35 rfl ?_
      refine md_get hb d_Md_token_36 fr_Md_29 rfl ?_
      refine ag_iload_n d_Md_token_39 rfl ?_
      obtain ⟨qi, hyp⟩ := md_ifs hyp
      refine md_ald hb d_Md_token_40 (by decide) (by decide) rfl qi ?_
      refine ag_icmp_ge d_Md_token_41 rfl (fun q => ?_) (fun q => ?_)
      · replace hyp := md_ifp q hyp
        exact ag_dr (ag_d1 rfl (ag_d1 rfl (ag_d1 rfl (ag_d1 rfl ag_d0)))) (w_Md_token_48 hb hH hyp)
      · replace hyp := md_ifn q hyp
        exact ag_dr (ag_d1 rfl (ag_d1 rfl (ag_d1 rfl (ag_d1 rfl ag_d0)))) (w_Md_token_44 hb hH hyp)
theorem w_Md_token_0 {l : Launch} {G : ag_G} {d N : Nat} {h : ag_H} {a : Nat} (hb : md_ok h a) (hH : 0 ≤ d) {x1 : Int32} {x2 : Int32} {S : MS} {res : Int32 × MS} (hyp : fn_Md_token_0 N x1 x2 S = some res) : ag_ev gc_P l G m_Md_token (d + 1) (ag_ret gc_P G (fun v h' => v = some (.int res.1) ∧ h' = md_up h a res.2)) 0 [(0, .ref a), (1, .int (x1)), (2, .int (x2))] [] (md_up h a S) := by
  unfold fn_Md_token_0 at hyp
  refine ag_iload_n d_Md_token_0 rfl ?_
  refine ag_bipush d_Md_token_1 ?_
  obtain ⟨qz, hyp⟩ := md_ifs hyp
  refine ag_irem d_Md_token_3 qz ?_
  refine ag_istore_n d_Md_token_4 (by decide) ?_
  refine ag_aload_n d_Md_token_5 rfl ?_
  refine ag_iload_n d_Md_token_6 rfl ?_
  obtain ⟨r1, e1, hyp⟩ := md_bd hyp
  refine ag_callv (as := [.int (x1)]) d_Md_token_7 ml_Md_188 gw_1190 rfl sl_Md_isToken (md_at0 hb _) (Nat.le_of_ble_eq_true rfl) (w_Md_isToken hb (d := d) (by omega) e1) (fun v1 h1 q1 => ?_)
  obtain ⟨rfl, rfl⟩ := q1
  refine ag_if_eq d_Md_token_10 rfl (fun q => ?_) (fun q => ?_)
  · replace hyp := md_ifp q hyp
    exact ag_dr (ag_d1 rfl (ag_d1 rfl (ag_d1 rfl (ag_d1 rfl ag_d0)))) (w_Md_token_48 hb hH hyp)
  · replace hyp := md_ifn q hyp
    refine ag_iload_n d_Md_token_13 rfl ?_
    refine ag_if_lt d_Md_token_14 rfl (fun q => ?_) (fun q => ?_)
    · replace hyp := md_ifp q hyp
      exact ag_dr (ag_d1 rfl (ag_d1 rfl (ag_d1 rfl (ag_d1 rfl ag_d0)))) (w_Md_token_22 hb hH hyp)
    · replace hyp := md_ifn q hyp
      refine ag_iload_n d_Md_token_17 rfl ?_
      refine ag_iconst d_Md_token_18 ?_
      refine ag_icmp_lt d_Md_token_19 rfl (fun q => ?_) (fun q => ?_)
      · replace hyp := md_ifp q hyp
        exact ag_dr (ag_d1 rfl (ag_d1 rfl (ag_d1 rfl (ag_d1 rfl ag_d0)))) (w_Md_token_44 hb hH hyp)
      · replace hyp := md_ifn q hyp
        exact ag_dr (ag_d1 rfl (ag_d1 rfl (ag_d1 rfl (ag_d1 rfl ag_d0)))) (w_Md_token_22 hb hH hyp)
theorem w_Md_token {l : Launch} {G : ag_G} {d N : Nat} {h : ag_H} {a : Nat} (hb : md_ok h a) (hH : 1 ≤ d) {p1 : Int32} {p2 : Int32} {S : MS} {res : Int32 × MS} (hyp : fn_Md_token N p1 p2 S = some res) : ag_Met gc_P l G m_Md_token d [.ref a, .int (p1), .int (p2)] (md_up h a S) (fun v h' => v = some (.int res.1) ∧ h' = md_up h a res.2) := by
  obtain ⟨d, rfl, hG⟩ := md_dd hH
  exact ag_met (by decide) rfl (Nat.le_of_ble_eq_true rfl) (ag_dr (ag_d1 rfl (ag_d1 rfl (ag_d1 rfl ag_d0))) (w_Md_token_0 hb hG hyp))
def fn_Md_count_89 (N : Nat) (s0 : Int32) (S : MS) : Option (Int32 × MS) := some ((s0), S)
def fn_Md_count_46 (N : Nat) (s0 : Int32) (S : MS) : Option (Int32 × MS) := some ((s0), S)
def fn_Md_count_0 (N : Nat) (x1 : Int32) (S : MS) : Option (Int32 × MS) := if (Int32.ofInt 3) ≤ (x1) then (if (x1) = (Int32.ofInt 3) then (if md_in (Int32.ofInt 0) (md_len 3) = true then (fn_Md_count_89 N ((va_up S.1 0 (Int32.ofInt 0), S.2).2 3 (Int32.ofInt 0).toNatClampNeg) (va_up S.1 0 (Int32.ofInt 0), S.2)) else none) else (if (x1) = (Int32.ofInt 4) then (fn_Md_count_89 N ((va_up S.1 0 (Int32.ofInt 0), S.2).1 4) (va_up S.1 0 (Int32.ofInt 0), S.2)) else (if (x1) = (Int32.ofInt 5) then (if md_in ((Int8.ofInt (95)).toInt32) (md_len 2) = true then (fn_Md_count_89 N ((va_up S.1 0 (Int32.ofInt 0), S.2).2 2 ((Int8.ofInt (95)).toInt32).toNatClampNeg) (va_up S.1 0 (Int32.ofInt 0), S.2)) else none) else (fn_Md_count_89 N (Int32.ofInt (-1)) (va_up S.1 0 (Int32.ofInt 0), S.2))))) else (if (x1) = (0) then (fn_Md_count_46 N ((va_up S.1 0 (Int32.ofInt 0), S.2).1 9) (va_up S.1 0 (Int32.ofInt 0), S.2)) else (if (x1) = (Int32.ofInt 1) then (fn_Md_count_46 N ((va_up S.1 0 (Int32.ofInt 0), S.2).1 5) (va_up S.1 0 (Int32.ofInt 0), S.2)) else (if (x1) = (Int32.ofInt 2) then (fn_Md_count_46 N ((va_up S.1 0 (Int32.ofInt 0), S.2).1 6) (va_up S.1 0 (Int32.ofInt 0), S.2)) else (fn_Md_count_46 N (Int32.ofInt (-1)) (va_up S.1 0 (Int32.ofInt 0), S.2)))))
def fn_Md_count (N : Nat) (p1 : Int32) (S : MS) : Option (Int32 × MS) := fn_Md_count_0 N p1 S
theorem w_Md_count_89 {l : Launch} {G : ag_G} {d N : Nat} {h : ag_H} {a : Nat} (hb : md_ok h a) {s0 : Int32} {S : MS} {res : Int32 × MS} (hyp : fn_Md_count_89 N s0 S = some res) : ag_ev gc_P l G m_Md_count (d) (ag_ret gc_P G (fun v h' => v = some (.int res.1) ∧ h' = md_up h a res.2)) 89 [(0, .ref a)] [.int (s0)] (md_up h a S) := by
  unfold fn_Md_count_89 at hyp
  cases hyp
  exact ag_iret d_Md_count_89 rfl rfl ⟨rfl, rfl⟩
theorem w_Md_count_46 {l : Launch} {G : ag_G} {d N : Nat} {h : ag_H} {a : Nat} (hb : md_ok h a) {s0 : Int32} {S : MS} {res : Int32 × MS} (hyp : fn_Md_count_46 N s0 S = some res) : ag_ev gc_P l G m_Md_count (d) (ag_ret gc_P G (fun v h' => v = some (.int res.1) ∧ h' = md_up h a res.2)) 46 [(0, .ref a)] [.int (s0)] (md_up h a S) := by
  unfold fn_Md_count_46 at hyp
  cases hyp
  exact ag_iret d_Md_count_46 rfl rfl ⟨rfl, rfl⟩
theorem w_Md_count_0 {l : Launch} {G : ag_G} {d N : Nat} {h : ag_H} {a : Nat} (hb : md_ok h a) {x1 : Int32} {S : MS} {res : Int32 × MS} (hyp : fn_Md_count_0 N x1 S = some res) : ag_ev gc_P l G m_Md_count (d) (ag_ret gc_P G (fun v h' => v = some (.int res.1) ∧ h' = md_up h a res.2)) 0 [(0, .ref a), (1, .int (x1))] [] (md_up h a S) := by
  unfold fn_Md_count_0 at hyp
  refine ag_aload_n d_Md_count_0 rfl ?_
  refine ag_iconst d_Md_count_1 ?_
  refine md_puti hb d_Md_count_2 fl_Md_84 rfl (by decide) rfl rfl ?_
  refine ag_iload_n d_Md_count_5 rfl ?_
  refine ag_iconst d_Md_count_6 ?_
  refine ag_icmp_ge d_Md_count_7 rfl (fun q => ?_) (fun q => ?_)
  · replace hyp := md_ifp q hyp
    refine ag_iload_n d_Md_count_47 rfl ?_
    refine ag_iconst d_Md_count_48 ?_
    refine ag_icmp_ne d_Md_count_49 rfl (fun q => ?_) (fun q => ?_)
    · replace hyp := md_ifn q hyp
      refine ag_iload_n d_Md_count_61 rfl ?_
      refine ag_iconst d_Md_count_62 ?_
      refine ag_icmp_ne d_Md_count_63 rfl (fun q => ?_) (fun q => ?_)
      · replace hyp := md_ifn q hyp
        refine ag_iload_n d_Md_count_73 rfl ?_
        refine ag_iconst d_Md_count_74 ?_
        refine ag_icmp_ne d_Md_count_75 rfl (fun q => ?_) (fun q => ?_)
        · replace hyp := md_ifn q hyp
          refine ag_iconst d_Md_count_88 ?_
          exact ag_dr (ag_d1 rfl ag_d0) (w_Md_count_89 hb hyp)
        · replace hyp := md_ifp q hyp
          refine ag_aload_n d_Md_count_78 rfl ?_
          refine md_get hb d_Md_count_79 fr_Md_13 rfl ?_
          refine ag_bipush d_Md_count_82 ?_
          obtain ⟨qi, hyp⟩ := md_ifs hyp
          refine md_ald hb d_Md_count_84 (by decide) (by decide) rfl qi ?_
          refine ag_goto d_Md_count_85 rfl ?_
          exact ag_dr (ag_d1 rfl ag_d0) (w_Md_count_89 hb hyp)
      · replace hyp := md_ifp q hyp
        refine ag_aload_n d_Md_count_66 rfl ?_
        refine md_get hb d_Md_count_67 fr_Md_172 rfl ?_
        refine ag_goto d_Md_count_70 rfl ?_
        exact ag_dr (ag_d1 rfl ag_d0) (w_Md_count_89 hb hyp)
    · replace hyp := md_ifp q hyp
      refine ag_aload_n d_Md_count_52 rfl ?_
      refine md_get hb d_Md_count_53 fr_Md_16 rfl ?_
      refine ag_iconst d_Md_count_56 ?_
      obtain ⟨qi, hyp⟩ := md_ifs hyp
      refine md_ald hb d_Md_count_57 (by decide) (by decide) rfl qi ?_
      refine ag_goto d_Md_count_58 rfl ?_
      exact ag_dr (ag_d1 rfl ag_d0) (w_Md_count_89 hb hyp)
  · replace hyp := md_ifn q hyp
    refine ag_iload_n d_Md_count_10 rfl ?_
    refine ag_if_ne d_Md_count_11 rfl (fun q => ?_) (fun q => ?_)
    · replace hyp := md_ifn q hyp
      refine ag_iload_n d_Md_count_21 rfl ?_
      refine ag_iconst d_Md_count_22 ?_
      refine ag_icmp_ne d_Md_count_23 rfl (fun q => ?_) (fun q => ?_)
      · replace hyp := md_ifn q hyp
        refine ag_iload_n d_Md_count_33 rfl ?_
        refine ag_iconst d_Md_count_34 ?_
        refine ag_icmp_ne d_Md_count_35 rfl (fun q => ?_) (fun q => ?_)
        · replace hyp := md_ifn q hyp
          refine ag_iconst d_Md_count_45 ?_
          exact ag_dr (ag_d1 rfl ag_d0) (w_Md_count_46 hb hyp)
        · replace hyp := md_ifp q hyp
          refine ag_aload_n d_Md_count_38 rfl ?_
          refine md_get hb d_Md_count_39 fr_Md_19 rfl ?_
          refine ag_goto d_Md_count_42 rfl ?_
          exact ag_dr (ag_d1 rfl ag_d0) (w_Md_count_46 hb hyp)
      · replace hyp := md_ifp q hyp
        refine ag_aload_n d_Md_count_26 rfl ?_
        refine md_get hb d_Md_count_27 fr_Md_175 rfl ?_
        refine ag_goto d_Md_count_30 rfl ?_
        exact ag_dr (ag_d1 rfl ag_d0) (w_Md_count_46 hb hyp)
    · replace hyp := md_ifp q hyp
      refine ag_aload_n d_Md_count_14 rfl ?_
      refine md_get hb d_Md_count_15 fr_Md_178 rfl ?_
      refine ag_goto d_Md_count_18 rfl ?_
      exact ag_dr (ag_d1 rfl ag_d0) (w_Md_count_46 hb hyp)
theorem w_Md_count {l : Launch} {G : ag_G} {d N : Nat} {h : ag_H} {a : Nat} (hb : md_ok h a) (hH : 0 ≤ d) {p1 : Int32} {S : MS} {res : Int32 × MS} (hyp : fn_Md_count N p1 S = some res) : ag_Met gc_P l G m_Md_count d [.ref a, .int (p1)] (md_up h a S) (fun v h' => v = some (.int res.1) ∧ h' = md_up h a res.2) := by
  exact ag_met (by decide) rfl (Nat.le_of_ble_eq_true rfl) (ag_dr (ag_d1 rfl (ag_d1 rfl ag_d0)) (w_Md_count_0 hb hyp))
