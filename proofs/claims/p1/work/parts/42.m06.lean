/-! Md_joined, Md_compared, Md_compare, Md_complete, Md_bindings -/
def fn_Md_joined_82 (N : Nat) (s0 : Int32) : Option Int32 := some (s0)
def fn_Md_joined_74 (N : Nat) : Option Int32 := fn_Md_joined_82 N (md_E)
def fn_Md_joined_54 (N : Nat) (s0 : Int64) : Option Int32 := if (lg_cmp (s0) ((-99999 : Int64))) < (0) then (fn_Md_joined_74 N ) else (if (lg_cmp (s0) ((99999 : Int64))) ≤ (0) then (fn_Md_joined_82 N ((s0).toInt32)) else (fn_Md_joined_74 N ))
def fn_Md_joined_15 (N : Nat) (x0 : Int32) (x1 : Int64) (x3 : Int64) : Option Int32 := if (x0) = ((Int8.ofInt (-11)).toInt32) then (fn_Md_joined_54 N ((x1) + (x3))) else (if (x0) = ((Int8.ofInt (-12)).toInt32) then (fn_Md_joined_54 N ((x1) - (x3))) else (if (x0) = ((Int8.ofInt (-13)).toInt32) then (fn_Md_joined_54 N ((x1) * (x3))) else (if ¬ (x3) = 0 then (fn_Md_joined_54 N ((x1) / (x3))) else none)))
def fn_Md_joined_0 (N : Nat) (x0 : Int32) (x1 : Int64) (x3 : Int64) : Option Int32 := if (x0) = ((Int8.ofInt (-14)).toInt32) then (if (lg_cmp (x3) (Int64.ofNat (0 : Fin 2))) = (0) then (some (md_E)) else (fn_Md_joined_15 N (x0) (x1) (x3))) else (fn_Md_joined_15 N (x0) (x1) (x3))
def fn_Md_joined (N : Nat) (p0 : Int32) (p1 : Int64) (p3 : Int64) : Option Int32 := fn_Md_joined_0 N p0 p1 p3
theorem w_Md_joined_82 {l : Launch} {G : ag_G} {d N : Nat} {h : ag_H} {s0 : Int32} {res : Int32} (hyp : fn_Md_joined_82 N s0 = some res) : ag_ev gc_P l G m_Md_joined (d) (ag_ret gc_P G (fun v h' => v = some (.int res) ∧ h' = h)) 82 [] [.int (s0)] (h) := by
  unfold fn_Md_joined_82 at hyp
  cases hyp
  exact ag_iret d_Md_joined_82 rfl rfl ⟨rfl, rfl⟩
theorem w_Md_joined_74 {l : Launch} {G : ag_G} {d N : Nat} {h : ag_H} {res : Int32} (hyp : fn_Md_joined_74 N  = some res) : ag_ev gc_P l G m_Md_joined (d) (ag_ret gc_P G (fun v h' => v = some (.int res) ∧ h' = h)) 74 [] [] (h) := by
  unfold fn_Md_joined_74 at hyp
  refine ag_ldc d_Md_joined_74 md_Ew ?_
  refine ag_goto d_Md_joined_76 rfl ?_
  exact ag_dr ag_d0 (w_Md_joined_82 hyp)
theorem w_Md_joined_54 {l : Launch} {G : ag_G} {d N : Nat} {h : ag_H} {s0 : Int64} {res : Int32} (hyp : fn_Md_joined_54 N s0 = some res) : ag_ev gc_P l G m_Md_joined (d) (ag_ret gc_P G (fun v h' => v = some (.int res) ∧ h' = h)) 54 [] [.long (s0)] (h) := by
  unfold fn_Md_joined_54 at hyp
  refine ag_lstore d_Md_joined_54 (by decide) ?_
  refine ag_lload d_Md_joined_56 rfl ?_
  refine ag_ldc2 d_Md_joined_58 gw_1268 ?_
  refine ag_lcmp d_Md_joined_61 ?_
  refine ag_if_lt d_Md_joined_62 rfl (fun q => ?_) (fun q => ?_)
  · replace hyp := md_ifp q hyp
    exact ag_dr ag_d0 (w_Md_joined_74 hyp)
  · replace hyp := md_ifn q hyp
    refine ag_lload d_Md_joined_65 rfl ?_
    refine ag_ldc2 d_Md_joined_67 gw_1269 ?_
    refine ag_lcmp d_Md_joined_70 ?_
    refine ag_if_le d_Md_joined_71 rfl (fun q => ?_) (fun q => ?_)
    · replace hyp := md_ifp q hyp
      refine ag_lload d_Md_joined_79 rfl ?_
      refine ag_l2i d_Md_joined_81 ?_
      exact ag_dr ag_d0 (w_Md_joined_82 hyp)
    · replace hyp := md_ifn q hyp
      exact ag_dr ag_d0 (w_Md_joined_74 hyp)
theorem w_Md_joined_15 {l : Launch} {G : ag_G} {d N : Nat} {h : ag_H} {x0 : Int32} {x1 : Int64} {x3 : Int64} {res : Int32} (hyp : fn_Md_joined_15 N x0 x1 x3 = some res) : ag_ev gc_P l G m_Md_joined (d) (ag_ret gc_P G (fun v h' => v = some (.int res) ∧ h' = h)) 15 [(0, .int (x0)), (1, .long (x1)), (3, .long (x3))] [] (h) := by
  unfold fn_Md_joined_15 at hyp
  refine ag_iload_n d_Md_joined_15 rfl ?_
  refine ag_bipush d_Md_joined_16 ?_
  refine ag_icmp_ne d_Md_joined_18 rfl (fun q => ?_) (fun q => ?_)
  · replace hyp := md_ifn q hyp
    refine ag_iload_n d_Md_joined_27 rfl ?_
    refine ag_bipush d_Md_joined_28 ?_
    refine ag_icmp_ne d_Md_joined_30 rfl (fun q => ?_) (fun q => ?_)
    · replace hyp := md_ifn q hyp
      refine ag_iload_n d_Md_joined_39 rfl ?_
      refine ag_bipush d_Md_joined_40 ?_
      refine ag_icmp_ne d_Md_joined_42 rfl (fun q => ?_) (fun q => ?_)
      · replace hyp := md_ifn q hyp
        refine ag_lload_n d_Md_joined_51 rfl ?_
        refine ag_lload_n d_Md_joined_52 rfl ?_
        obtain ⟨qz, hyp⟩ := md_ifs hyp
        refine ag_ldiv d_Md_joined_53 qz ?_
        exact ag_dr ag_d0 (w_Md_joined_54 hyp)
      · replace hyp := md_ifp q hyp
        refine ag_lload_n d_Md_joined_45 rfl ?_
        refine ag_lload_n d_Md_joined_46 rfl ?_
        refine ag_lmul d_Md_joined_47 ?_
        refine ag_goto d_Md_joined_48 rfl ?_
        exact ag_dr ag_d0 (w_Md_joined_54 hyp)
    · replace hyp := md_ifp q hyp
      refine ag_lload_n d_Md_joined_33 rfl ?_
      refine ag_lload_n d_Md_joined_34 rfl ?_
      refine ag_lsub d_Md_joined_35 ?_
      refine ag_goto d_Md_joined_36 rfl ?_
      exact ag_dr ag_d0 (w_Md_joined_54 hyp)
  · replace hyp := md_ifp q hyp
    refine ag_lload_n d_Md_joined_21 rfl ?_
    refine ag_lload_n d_Md_joined_22 rfl ?_
    refine ag_ladd d_Md_joined_23 ?_
    refine ag_goto d_Md_joined_24 rfl ?_
    exact ag_dr ag_d0 (w_Md_joined_54 hyp)
theorem w_Md_joined_0 {l : Launch} {G : ag_G} {d N : Nat} {h : ag_H} {x0 : Int32} {x1 : Int64} {x3 : Int64} {res : Int32} (hyp : fn_Md_joined_0 N x0 x1 x3 = some res) : ag_ev gc_P l G m_Md_joined (d) (ag_ret gc_P G (fun v h' => v = some (.int res) ∧ h' = h)) 0 [(0, .int (x0)), (1, .long (x1)), (3, .long (x3))] [] (h) := by
  unfold fn_Md_joined_0 at hyp
  refine ag_iload_n d_Md_joined_0 rfl ?_
  refine ag_bipush d_Md_joined_1 ?_
  refine ag_icmp_ne d_Md_joined_3 rfl (fun q => ?_) (fun q => ?_)
  · replace hyp := md_ifn q hyp
    exact ag_dr (ag_d1 rfl (ag_d1 rfl (ag_d1 rfl ag_d0))) (w_Md_joined_15 hyp)
  · replace hyp := md_ifp q hyp
    refine ag_lload_n d_Md_joined_6 rfl ?_
    refine ag_lconst d_Md_joined_7 ?_
    refine ag_lcmp d_Md_joined_8 ?_
    refine ag_if_ne d_Md_joined_9 rfl (fun q => ?_) (fun q => ?_)
    · replace hyp := md_ifn q hyp
      exact ag_dr (ag_d1 rfl (ag_d1 rfl (ag_d1 rfl ag_d0))) (w_Md_joined_15 hyp)
    · replace hyp := md_ifp q hyp
      refine ag_ldc d_Md_joined_12 md_Ew ?_
      cases hyp
      exact ag_iret d_Md_joined_14 rfl rfl ⟨rfl, rfl⟩
theorem w_Md_joined {l : Launch} {G : ag_G} {d N : Nat} {h : ag_H} (hH : 0 ≤ d) {p0 : Int32} {p1 : Int64} {p3 : Int64} {res : Int32} (hyp : fn_Md_joined N p0 p1 p3 = some res) : ag_Met gc_P l G m_Md_joined d [.int (p0), .long (p1), .long (p3)] (h) (fun v h' => v = some (.int res) ∧ h' = h) := by
  exact ag_met (by decide) rfl (Nat.le_of_ble_eq_true rfl) (ag_dr (ag_d1 rfl (ag_d1 rfl (ag_d1 rfl ag_d0))) (w_Md_joined_0 hyp))
def fn_Md_compared_67 (N : Nat) (s0 : Int32) : Option Int32 := if md_01 (s0) = true then (some (s0)) else none
def fn_Md_compared_59 (N : Nat) (s0 : Int32) (s1 : Int32) : Option Int32 := if (s0) = (s1) then (fn_Md_compared_67 N (Int32.ofInt 1)) else (fn_Md_compared_67 N (Int32.ofInt 0))
def fn_Md_compared_49 (N : Nat) (x1 : Int32) (x2 : Int32) (s0 : Int32) : Option Int32 := if (x1) = (x2) then (fn_Md_compared_59 N (s0) (Int32.ofInt 1)) else (fn_Md_compared_59 N (s0) (Int32.ofInt 0))
def fn_Md_compared_0 (N : Nat) (x0 : Int32) (x1 : Int32) (x2 : Int32) : Option Int32 := if (x0) = ((Int8.ofInt (-21)).toInt32) then (if (x2) ≤ (x1) then (fn_Md_compared_67 N (Int32.ofInt 0)) else (fn_Md_compared_67 N (Int32.ofInt 1))) else (if (x0) = ((Int8.ofInt (-22)).toInt32) then (if (x1) ≤ (x2) then (fn_Md_compared_67 N (Int32.ofInt 0)) else (fn_Md_compared_67 N (Int32.ofInt 1))) else (if (x0) = ((Int8.ofInt (-23)).toInt32) then (fn_Md_compared_49 N (x1) (x2) (Int32.ofInt 1)) else (fn_Md_compared_49 N (x1) (x2) (Int32.ofInt 0))))
def fn_Md_compared (N : Nat) (p0 : Int32) (p1 : Int32) (p2 : Int32) : Option Int32 := fn_Md_compared_0 N p0 p1 p2
theorem w_Md_compared_67 {l : Launch} {G : ag_G} {d N : Nat} {h : ag_H} {s0 : Int32} {res : Int32} (hyp : fn_Md_compared_67 N s0 = some res) : ag_ev gc_P l G m_Md_compared (d) (ag_ret gc_P G (fun v h' => v = some (.int res) ∧ h' = h)) 67 [] [.int (s0)] (h) := by
  unfold fn_Md_compared_67 at hyp
  obtain ⟨qz, hyp⟩ := md_ifs hyp
  cases hyp
  exact ag_iret d_Md_compared_67 rfl (md_01n qz) ⟨rfl, rfl⟩
theorem w_Md_compared_59 {l : Launch} {G : ag_G} {d N : Nat} {h : ag_H} {s0 : Int32} {s1 : Int32} {res : Int32} (hyp : fn_Md_compared_59 N s0 s1 = some res) : ag_ev gc_P l G m_Md_compared (d) (ag_ret gc_P G (fun v h' => v = some (.int res) ∧ h' = h)) 59 [] [.int (s1), .int (s0)] (h) := by
  unfold fn_Md_compared_59 at hyp
  refine ag_icmp_ne d_Md_compared_59 rfl (fun q => ?_) (fun q => ?_)
  · replace hyp := md_ifn q hyp
    refine ag_iconst d_Md_compared_66 ?_
    exact ag_dr ag_d0 (w_Md_compared_67 hyp)
  · replace hyp := md_ifp q hyp
    refine ag_iconst d_Md_compared_62 ?_
    refine ag_goto d_Md_compared_63 rfl ?_
    exact ag_dr ag_d0 (w_Md_compared_67 hyp)
theorem w_Md_compared_49 {l : Launch} {G : ag_G} {d N : Nat} {h : ag_H} {x1 : Int32} {x2 : Int32} {s0 : Int32} {res : Int32} (hyp : fn_Md_compared_49 N x1 x2 s0 = some res) : ag_ev gc_P l G m_Md_compared (d) (ag_ret gc_P G (fun v h' => v = some (.int res) ∧ h' = h)) 49 [(1, .int (x1)), (2, .int (x2))] [.int (s0)] (h) := by
  unfold fn_Md_compared_49 at hyp
  refine ag_iload_n d_Md_compared_49 rfl ?_
  refine ag_iload_n d_Md_compared_50 rfl ?_
  refine ag_icmp_ne d_Md_compared_51 rfl (fun q => ?_) (fun q => ?_)
  · replace hyp := md_ifn q hyp
    refine ag_iconst d_Md_compared_58 ?_
    exact ag_dr ag_d0 (w_Md_compared_59 hyp)
  · replace hyp := md_ifp q hyp
    refine ag_iconst d_Md_compared_54 ?_
    refine ag_goto d_Md_compared_55 rfl ?_
    exact ag_dr ag_d0 (w_Md_compared_59 hyp)
theorem w_Md_compared_0 {l : Launch} {G : ag_G} {d N : Nat} {h : ag_H} {x0 : Int32} {x1 : Int32} {x2 : Int32} {res : Int32} (hyp : fn_Md_compared_0 N x0 x1 x2 = some res) : ag_ev gc_P l G m_Md_compared (d) (ag_ret gc_P G (fun v h' => v = some (.int res) ∧ h' = h)) 0 [(0, .int (x0)), (1, .int (x1)), (2, .int (x2))] [] (h) := by
  unfold fn_Md_compared_0 at hyp
  refine ag_iload_n d_Md_compared_0 rfl ?_
  refine ag_bipush d_Md_compared_1 ?_
  refine ag_icmp_ne d_Md_compared_3 rfl (fun q => ?_) (fun q => ?_)
  · replace hyp := md_ifn q hyp
    refine ag_iload_n d_Md_compared_19 rfl ?_
    refine ag_bipush d_Md_compared_20 ?_
    refine ag_icmp_ne d_Md_compared_22 rfl (fun q => ?_) (fun q => ?_)
    · replace hyp := md_ifn q hyp
      refine ag_iload_n d_Md_compared_38 rfl ?_
      refine ag_bipush d_Md_compared_39 ?_
      refine ag_icmp_ne d_Md_compared_41 rfl (fun q => ?_) (fun q => ?_)
      · replace hyp := md_ifn q hyp
        refine ag_iconst d_Md_compared_48 ?_
        exact ag_dr (ag_d1 rfl (ag_d1 rfl ag_d0)) (w_Md_compared_49 hyp)
      · replace hyp := md_ifp q hyp
        refine ag_iconst d_Md_compared_44 ?_
        refine ag_goto d_Md_compared_45 rfl ?_
        exact ag_dr (ag_d1 rfl (ag_d1 rfl ag_d0)) (w_Md_compared_49 hyp)
    · replace hyp := md_ifp q hyp
      refine ag_iload_n d_Md_compared_25 rfl ?_
      refine ag_iload_n d_Md_compared_26 rfl ?_
      refine ag_icmp_le d_Md_compared_27 rfl (fun q => ?_) (fun q => ?_)
      · replace hyp := md_ifp q hyp
        refine ag_iconst d_Md_compared_34 ?_
        refine ag_goto d_Md_compared_35 rfl ?_
        exact ag_dr ag_d0 (w_Md_compared_67 hyp)
      · replace hyp := md_ifn q hyp
        refine ag_iconst d_Md_compared_30 ?_
        refine ag_goto d_Md_compared_31 rfl ?_
        exact ag_dr ag_d0 (w_Md_compared_67 hyp)
  · replace hyp := md_ifp q hyp
    refine ag_iload_n d_Md_compared_6 rfl ?_
    refine ag_iload_n d_Md_compared_7 rfl ?_
    refine ag_icmp_ge d_Md_compared_8 rfl (fun q => ?_) (fun q => ?_)
    · replace hyp := md_ifp q hyp
      refine ag_iconst d_Md_compared_15 ?_
      refine ag_goto d_Md_compared_16 rfl ?_
      exact ag_dr ag_d0 (w_Md_compared_67 hyp)
    · replace hyp := md_ifn q hyp
      refine ag_iconst d_Md_compared_11 ?_
      refine ag_goto d_Md_compared_12 rfl ?_
      exact ag_dr ag_d0 (w_Md_compared_67 hyp)
theorem w_Md_compared {l : Launch} {G : ag_G} {d N : Nat} {h : ag_H} (hH : 0 ≤ d) {p0 : Int32} {p1 : Int32} {p2 : Int32} {res : Int32} (hyp : fn_Md_compared N p0 p1 p2 = some res) : ag_Met gc_P l G m_Md_compared d [.int (p0), .int (p1), .int (p2)] (h) (fun v h' => v = some (.int res) ∧ h' = h) := by
  exact ag_met (by decide) rfl (Nat.le_of_ble_eq_true rfl) (ag_dr (ag_d1 rfl (ag_d1 rfl (ag_d1 rfl ag_d0))) (w_Md_compared_0 hyp))
def fn_Md_compare_145 (N : Nat) (k4 : Int32 → Int32 → Int32 → MS → Option (Int32 × MS)) (x1 : Int32) (x2 : Int32) (x3 : Int32) (S : MS) : Option (Int32 × MS) := k4 (x1) (x2) ((x3) + Int32.ofInt (1)) S
def fn_Md_compare_58 (N : Nat) (k4 : Int32 → Int32 → Int32 → MS → Option (Int32 × MS)) (x1 : Int32) (x2 : Int32) (x3 : Int32) (s1 : Int32) (s2 : Int32) (S : MS) : Option (Int32 × MS) := if md_in (s1) (md_len 21) = true then (fn_Md_compare_145 N k4 (x1) ((x2) + Int32.ofInt (1)) (x3) (S.1, va_up S.2 21 (upd (S.2 21) (s1).toNatClampNeg (s2)))) else none
def fn_Md_compare_4 (N : Nat) : Nat → Int32 → Int32 → Int32 → MS → Option (Int32 × MS)
  | 0, _, _, _, _ => none
  | n + 1, x1, x2, x3, S => if md_in (x1) (md_len 14) = true then (if (S.2 14 (x1).toNatClampNeg) ≤ (x3) then (some ((Int32.ofInt 1), S)) else (if md_in ((((Int8.ofInt (48)).toInt32) * (x1)) + (x3)) (md_len 15) = true then (if (S.2 15 ((((Int8.ofInt (48)).toInt32) * (x1)) + (x3)).toNatClampNeg) ≤ ((Int8.ofInt (-10)).toInt32) then (if (S.2 15 ((((Int8.ofInt (48)).toInt32) * (x1)) + (x3)).toNatClampNeg) ≤ ((Int8.ofInt (-20)).toInt32) then (if md_in ((x2) + Int32.ofInt (-2)) (md_len 21) = true then (if md_in (((x2) + Int32.ofInt (-2)) + (Int32.ofInt 1)) (md_len 21) = true then ((fn_Md_compared N (S.2 15 ((((Int8.ofInt (48)).toInt32) * (x1)) + (x3)).toNatClampNeg) (S.2 21 ((x2) + Int32.ofInt (-2)).toNatClampNeg) (S.2 21 (((x2) + Int32.ofInt (-2)) + (Int32.ofInt 1)).toNatClampNeg)).bind fun r1 => if (r1) = (0) then (some ((Int32.ofInt 0), S)) else (fn_Md_compare_145 N (fn_Md_compare_4 N n) (x1) ((x2) + Int32.ofInt (-2)) (x3) S)) else none) else none) else (if md_in ((x2) + Int32.ofInt (-2)) (md_len 21) = true then (if md_in (((x2) + Int32.ofInt (-2)) + (Int32.ofInt 1)) (md_len 21) = true then ((fn_Md_joined N (S.2 15 ((((Int8.ofInt (48)).toInt32) * (x1)) + (x3)).toNatClampNeg) ((S.2 21 ((x2) + Int32.ofInt (-2)).toNatClampNeg).toInt64) ((S.2 21 (((x2) + Int32.ofInt (-2)) + (Int32.ofInt 1)).toNatClampNeg).toInt64)).bind fun r2 => if md_in ((x2) + Int32.ofInt (-2)) (md_len 21) = true then (if md_in ((x2) + Int32.ofInt (-2)) (md_len 21) = true then (if ((S.1, va_up S.2 21 (upd (S.2 21) ((x2) + Int32.ofInt (-2)).toNatClampNeg (r2))).2 21 ((x2) + Int32.ofInt (-2)).toNatClampNeg) = (md_E) then (some ((Int32.ofInt 2), (S.1, va_up S.2 21 (upd (S.2 21) ((x2) + Int32.ofInt (-2)).toNatClampNeg (r2))))) else (fn_Md_compare_145 N (fn_Md_compare_4 N n) (x1) (((x2) + Int32.ofInt (-2)) + Int32.ofInt (1)) (x3) (S.1, va_up S.2 21 (upd (S.2 21) ((x2) + Int32.ofInt (-2)).toNatClampNeg (r2))))) else none) else none) else none) else none)) else (if (S.2 15 ((((Int8.ofInt (48)).toInt32) * (x1)) + (x3)).toNatClampNeg) < (0) then (if md_in ((Int32.ofInt (-1)) - (S.2 15 ((((Int8.ofInt (48)).toInt32) * (x1)) + (x3)).toNatClampNeg)) (md_len 20) = true then (fn_Md_compare_58 N (fn_Md_compare_4 N n) (x1) (x2) (x3) (x2) (S.2 20 ((Int32.ofInt (-1)) - (S.2 15 ((((Int8.ofInt (48)).toInt32) * (x1)) + (x3)).toNatClampNeg)).toNatClampNeg) S) else none) else (fn_Md_compare_58 N (fn_Md_compare_4 N n) (x1) (x2) (x3) (x2) (S.2 15 ((((Int8.ofInt (48)).toInt32) * (x1)) + (x3)).toNatClampNeg) S))) else none)) else none
theorem fe_Md_compare_4 (N : Nat) (n : Nat) (x1 : Int32) (x2 : Int32) (x3 : Int32) (S : MS) : fn_Md_compare_4 N (n + 1) x1 x2 x3 S = (if md_in (x1) (md_len 14) = true then (if (S.2 14 (x1).toNatClampNeg) ≤ (x3) then (some ((Int32.ofInt 1), S)) else (if md_in ((((Int8.ofInt (48)).toInt32) * (x1)) + (x3)) (md_len 15) = true then (if (S.2 15 ((((Int8.ofInt (48)).toInt32) * (x1)) + (x3)).toNatClampNeg) ≤ ((Int8.ofInt (-10)).toInt32) then (if (S.2 15 ((((Int8.ofInt (48)).toInt32) * (x1)) + (x3)).toNatClampNeg) ≤ ((Int8.ofInt (-20)).toInt32) then (if md_in ((x2) + Int32.ofInt (-2)) (md_len 21) = true then (if md_in (((x2) + Int32.ofInt (-2)) + (Int32.ofInt 1)) (md_len 21) = true then ((fn_Md_compared N (S.2 15 ((((Int8.ofInt (48)).toInt32) * (x1)) + (x3)).toNatClampNeg) (S.2 21 ((x2) + Int32.ofInt (-2)).toNatClampNeg) (S.2 21 (((x2) + Int32.ofInt (-2)) + (Int32.ofInt 1)).toNatClampNeg)).bind fun r1 => if (r1) = (0) then (some ((Int32.ofInt 0), S)) else (fn_Md_compare_145 N (fn_Md_compare_4 N n) (x1) ((x2) + Int32.ofInt (-2)) (x3) S)) else none) else none) else (if md_in ((x2) + Int32.ofInt (-2)) (md_len 21) = true then (if md_in (((x2) + Int32.ofInt (-2)) + (Int32.ofInt 1)) (md_len 21) = true then ((fn_Md_joined N (S.2 15 ((((Int8.ofInt (48)).toInt32) * (x1)) + (x3)).toNatClampNeg) ((S.2 21 ((x2) + Int32.ofInt (-2)).toNatClampNeg).toInt64) ((S.2 21 (((x2) + Int32.ofInt (-2)) + (Int32.ofInt 1)).toNatClampNeg).toInt64)).bind fun r2 => if md_in ((x2) + Int32.ofInt (-2)) (md_len 21) = true then (if md_in ((x2) + Int32.ofInt (-2)) (md_len 21) = true then (if ((S.1, va_up S.2 21 (upd (S.2 21) ((x2) + Int32.ofInt (-2)).toNatClampNeg (r2))).2 21 ((x2) + Int32.ofInt (-2)).toNatClampNeg) = (md_E) then (some ((Int32.ofInt 2), (S.1, va_up S.2 21 (upd (S.2 21) ((x2) + Int32.ofInt (-2)).toNatClampNeg (r2))))) else (fn_Md_compare_145 N (fn_Md_compare_4 N n) (x1) (((x2) + Int32.ofInt (-2)) + Int32.ofInt (1)) (x3) (S.1, va_up S.2 21 (upd (S.2 21) ((x2) + Int32.ofInt (-2)).toNatClampNeg (r2))))) else none) else none) else none) else none)) else (if (S.2 15 ((((Int8.ofInt (48)).toInt32) * (x1)) + (x3)).toNatClampNeg) < (0) then (if md_in ((Int32.ofInt (-1)) - (S.2 15 ((((Int8.ofInt (48)).toInt32) * (x1)) + (x3)).toNatClampNeg)) (md_len 20) = true then (fn_Md_compare_58 N (fn_Md_compare_4 N n) (x1) (x2) (x3) (x2) (S.2 20 ((Int32.ofInt (-1)) - (S.2 15 ((((Int8.ofInt (48)).toInt32) * (x1)) + (x3)).toNatClampNeg)).toNatClampNeg) S) else none) else (fn_Md_compare_58 N (fn_Md_compare_4 N n) (x1) (x2) (x3) (x2) (S.2 15 ((((Int8.ofInt (48)).toInt32) * (x1)) + (x3)).toNatClampNeg) S))) else none)) else none) := rfl
def fn_Md_compare_0 (N : Nat) (x1 : Int32) (S : MS) : Option (Int32 × MS) := fn_Md_compare_4 N N (x1) (Int32.ofInt 0) (Int32.ofInt 0) S
def fn_Md_compare (N : Nat) (p1 : Int32) (S : MS) : Option (Int32 × MS) := fn_Md_compare_0 N p1 S
theorem w_Md_compare_145 {l : Launch} {G : ag_G} {d N : Nat} {h : ag_H} {a : Nat} (hb : md_ok h a) (hH : 0 ≤ d) {k4 : Int32 → Int32 → Int32 → MS → Option (Int32 × MS)} (hk4 : ∀ (res : Int32 × MS) (y1 : Int32) (y2 : Int32) (y3 : Int32) (T : MS), k4 y1 y2 y3 T = some res → ag_ev gc_P l G m_Md_compare (d + 1) (ag_ret gc_P G (fun v h' => v = some (.int res.1) ∧ h' = md_up h a res.2)) 4 [(0, .ref a), (1, .int (y1)), (2, .int (y2)), (3, .int (y3))] [] (md_up h a T)) {x1 : Int32} {x2 : Int32} {x3 : Int32} {S : MS} {res : Int32 × MS} (hyp : fn_Md_compare_145 N k4 x1 x2 x3 S = some res) : ag_ev gc_P l G m_Md_compare (d + 1) (ag_ret gc_P G (fun v h' => v = some (.int res.1) ∧ h' = md_up h a res.2)) 145 [(0, .ref a), (1, .int (x1)), (2, .int (x2)), (3, .int (x3))] [] (md_up h a S) := by
  unfold fn_Md_compare_145 at hyp
  refine ag_iinc d_Md_compare_145 rfl (by decide) ?_
  refine ag_goto d_Md_compare_148 rfl ?_
  exact ag_dr (ag_d1 rfl (ag_d1 rfl (ag_d1 rfl (ag_d1 rfl ag_d0)))) (hk4 _ _ _ _ _ hyp)
theorem w_Md_compare_58 {l : Launch} {G : ag_G} {d N : Nat} {h : ag_H} {a : Nat} (hb : md_ok h a) (hH : 0 ≤ d) {k4 : Int32 → Int32 → Int32 → MS → Option (Int32 × MS)} (hk4 : ∀ (res : Int32 × MS) (y1 : Int32) (y2 : Int32) (y3 : Int32) (T : MS), k4 y1 y2 y3 T = some res → ag_ev gc_P l G m_Md_compare (d + 1) (ag_ret gc_P G (fun v h' => v = some (.int res.1) ∧ h' = md_up h a res.2)) 4 [(0, .ref a), (1, .int (y1)), (2, .int (y2)), (3, .int (y3))] [] (md_up h a T)) {x1 : Int32} {x2 : Int32} {x3 : Int32} {s1 : Int32} {s2 : Int32} {S : MS} {res : Int32 × MS} (hyp : fn_Md_compare_58 N k4 x1 x2 x3 s1 s2 S = some res) : ag_ev gc_P l G m_Md_compare (d + 1) (ag_ret gc_P G (fun v h' => v = some (.int res.1) ∧ h' = md_up h a res.2)) 58 [(0, .ref a), (1, .int (x1)), (2, .int (x2)), (3, .int (x3))] [.int (s2), .int (s1), .ref (a + 21)] (md_up h a S) := by
  unfold fn_Md_compare_58 at hyp
  obtain ⟨qi, hyp⟩ := md_ifs hyp
  refine md_ast hb d_Md_compare_58 (by decide) (by decide) rfl qi ?_
  refine ag_iinc d_Md_compare_59 rfl (by decide) ?_
  refine ag_goto d_Md_compare_62 rfl ?_
  exact ag_dr (ag_d1 rfl (ag_d1 rfl (ag_d1 rfl (ag_d1 rfl ag_d0)))) (w_Md_compare_145 hb hH hk4 hyp)
theorem w_Md_compare_4 {l : Launch} {G : ag_G} {d N : Nat} {h : ag_H} {a : Nat} (hb : md_ok h a) (hH : 0 ≤ d) : ∀ (n : Nat) (res : Int32 × MS) (x1 : Int32) (x2 : Int32) (x3 : Int32) (S : MS) , fn_Md_compare_4 N n x1 x2 x3 S = some res → ag_ev gc_P l G m_Md_compare (d + 1) (ag_ret gc_P G (fun v h' => v = some (.int res.1) ∧ h' = md_up h a res.2)) 4 [(0, .ref a), (1, .int (x1)), (2, .int (x2)), (3, .int (x3))] [] (md_up h a S) := by
  intro n
  induction n with
  | zero =>
    intro res x1 x2 x3 S hyp
    cases hyp
  | succ n ih =>
    intro res x1 x2 x3 S hyp
    rw [fe_Md_compare_4] at hyp
    refine ag_iload_n d_Md_compare_4 rfl ?_
    refine ag_aload_n d_Md_compare_5 rfl ?_
    refine md_get hb d_Md_compare_6 fr_Md_60 rfl ?_
    refine ag_iload_n d_Md_compare_9 rfl ?_
    obtain ⟨qi, hyp⟩ := md_ifs hyp
    refine md_ald hb d_Md_compare_10 (by decide) (by decide) rfl qi ?_
    refine ag_icmp_ge d_Md_compare_11 rfl (fun q => ?_) (fun q => ?_)
    · replace hyp := md_ifp q hyp
      refine ag_iconst d_Md_compare_151 ?_
      cases hyp
      exact ag_iret d_Md_compare_152 rfl rfl ⟨rfl, rfl⟩
    · replace hyp := md_ifn q hyp
      refine ag_aload_n d_Md_compare_14 rfl ?_
      refine md_get hb d_Md_compare_15 fr_Md_63 rfl ?_
      refine ag_bipush d_Md_compare_18 ?_
      refine ag_iload_n d_Md_compare_20 rfl ?_
      refine ag_imul d_Md_compare_21 ?_
      refine ag_iload_n d_Md_compare_22 rfl ?_
      refine ag_iadd d_Md_compare_23 ?_
      obtain ⟨qi, hyp⟩ := md_ifs hyp
      refine md_ald hb d_Md_compare_24 (by decide) (by decide) rfl qi ?_
      refine ag_istore d_Md_compare_25 (by decide) ?_
      refine ag_iload d_Md_compare_27 rfl ?_
      refine ag_bipush d_Md_compare_29 ?_
      refine ag_icmp_le d_Md_compare_31 rfl (fun q => ?_) (fun q => ?_)
      · replace hyp := md_ifp q hyp
        refine ag_iinc d_Md_compare_65 rfl (by decide) ?_
        refine ag_iload d_Md_compare_68 rfl ?_
        refine ag_bipush d_Md_compare_70 ?_
        refine ag_icmp_le d_Md_compare_72 rfl (fun q => ?_) (fun q => ?_)
        · replace hyp := md_ifp q hyp
          refine ag_iload d_Md_compare_121 rfl ?_
          refine ag_aload_n d_Md_compare_123 rfl ?_
          refine md_get hb d_Md_compare_124 fr_Md_81 rfl ?_
          refine ag_iload_n d_Md_compare_127 rfl ?_
          obtain ⟨qi, hyp⟩ := md_ifs hyp
          refine md_ald hb d_Md_compare_128 (by decide) (by decide) rfl qi ?_
          refine ag_aload_n d_Md_compare_129 rfl ?_
          refine md_get hb d_Md_compare_130 fr_Md_81 rfl ?_
          refine ag_iload_n d_Md_compare_133 rfl ?_
          refine ag_iconst d_Md_compare_134 ?_
          refine ag_iadd d_Md_compare_135 ?_
          obtain ⟨qi, hyp⟩ := md_ifs hyp
          refine md_ald hb d_Md_compare_136 (by decide) (by decide) rfl qi ?_
          obtain ⟨r1, e1, hyp⟩ := md_bd hyp
          refine ag_calls (as := [.int (S.2 15 ((((Int8.ofInt (48)).toInt32) * (x1)) + (x3)).toNatClampNeg), .int (S.2 21 ((x2) + Int32.ofInt (-2)).toNatClampNeg), .int (S.2 21 (((x2) + Int32.ofInt (-2)) + (Int32.ofInt 1)).toNatClampNeg)]) d_Md_compare_137 ml_Md_217 gw_1271 (Nat.le_of_ble_eq_true rfl) (w_Md_compared (d := d) (by omega) e1) (fun v1 h1 q1 => ?_)
          obtain ⟨rfl, rfl⟩ := q1
          refine ag_if_ne d_Md_compare_140 rfl (fun q => ?_) (fun q => ?_)
          · replace hyp := md_ifn q hyp
            exact ag_dr (ag_d1 rfl (ag_d1 rfl (ag_d1 rfl (ag_d1 rfl ag_d0)))) (w_Md_compare_145 hb hH ih hyp)
          · replace hyp := md_ifp q hyp
            refine ag_iconst d_Md_compare_143 ?_
            cases hyp
            exact ag_iret d_Md_compare_144 rfl rfl ⟨rfl, rfl⟩
        · replace hyp := md_ifn q hyp
          refine ag_aload_n d_Md_compare_75 rfl ?_
          refine md_get hb d_Md_compare_76 fr_Md_81 rfl ?_
          refine ag_iload_n d_Md_compare_79 rfl ?_
          refine ag_iload d_Md_compare_80 rfl ?_
          refine ag_aload_n d_Md_compare_82 rfl ?_
          refine md_get hb d_Md_compare_83 fr_Md_81 rfl ?_
          refine ag_iload_n d_Md_compare_86 rfl ?_
          obtain ⟨qi, hyp⟩ := md_ifs hyp
          refine md_ald hb d_Md_compare_87 (by decide) (by decide) rfl qi ?_
          refine ag_i2l d_Md_compare_88 ?_
          refine ag_aload_n d_Md_compare_89 rfl ?_
          refine md_get hb d_Md_compare_90 fr_Md_81 rfl ?_
          refine ag_iload_n d_Md_compare_93 rfl ?_
          refine ag_iconst d_Md_compare_94 ?_
          refine ag_iadd d_Md_compare_95 ?_
          obtain ⟨qi, hyp⟩ := md_ifs hyp
          refine md_ald hb d_Md_compare_96 (by decide) (by decide) rfl qi ?_
          refine ag_i2l d_Md_compare_97 ?_
          obtain ⟨r2, e2, hyp⟩ := md_bd hyp
          refine ag_calls (as := [.int (S.2 15 ((((Int8.ofInt (48)).toInt32) * (x1)) + (x3)).toNatClampNeg), .long ((S.2 21 ((x2) + Int32.ofInt (-2)).toNatClampNeg).toInt64), .long ((S.2 21 (((x2) + Int32.ofInt (-2)) + (Int32.ofInt 1)).toNatClampNeg).toInt64)]) d_Md_compare_98 ml_Md_213 gw_1265 (Nat.le_of_ble_eq_true rfl) (w_Md_joined (d := d) (by omega) e2) (fun v2 h2 q2 => ?_)
          obtain ⟨rfl, rfl⟩ := q2
          obtain ⟨qi, hyp⟩ := md_ifs hyp
          refine md_ast hb d_Md_compare_101 (by decide) (by decide) rfl qi ?_
          refine ag_aload_n d_Md_compare_102 rfl ?_
          refine md_get hb d_Md_compare_103 fr_Md_81 rfl ?_
          refine ag_iload_n d_Md_compare_106 rfl ?_
          obtain ⟨qi, hyp⟩ := md_ifs hyp
          refine md_ald hb d_Md_compare_107 (by decide) (by decide) rfl qi ?_
          refine ag_ldc d_Md_compare_108 md_Ew ?_
          refine ag_icmp_ne d_Md_compare_110 rfl (fun q => ?_) (fun q => ?_)
          · replace hyp := md_ifn q hyp
            refine ag_iinc d_Md_compare_115 rfl (by decide) ?_
            refine ag_goto d_Md_compare_118 rfl ?_
            exact ag_dr (ag_d1 rfl (ag_d1 rfl (ag_d1 rfl (ag_d1 rfl ag_d0)))) (w_Md_compare_145 hb hH ih hyp)
          · replace hyp := md_ifp q hyp
            refine ag_iconst d_Md_compare_113 ?_
            cases hyp
            exact ag_iret d_Md_compare_114 rfl rfl ⟨rfl, rfl⟩
      · replace hyp := md_ifn q hyp
        refine ag_aload_n d_Md_compare_34 rfl ?_
        refine md_get hb d_Md_compare_35 fr_Md_81 rfl ?_
        refine ag_iload_n d_Md_compare_38 rfl ?_
        refine ag_iload d_Md_compare_39 rfl ?_
        refine ag_if_lt d_Md_compare_41 rfl (fun q => ?_) (fun q => ?_)
        · replace hyp := md_ifp q hyp
          refine ag_aload_n d_Md_compare_49 rfl ?_
          refine md_get hb d_Md_compare_50 fr_Md_78 rfl ?_
          refine ag_iconst d_Md_compare_53 ?_
          refine ag_iload d_Md_compare_54 rfl ?_
          refine ag_isub d_Md_compare_56 ?_
          obtain ⟨qi, hyp⟩ := md_ifs hyp
          refine md_ald hb d_Md_compare_57 (by decide) (by decide) rfl qi ?_
          exact ag_dr (ag_d1 rfl (ag_d1 rfl (ag_d1 rfl (ag_d1 rfl ag_d0)))) (w_Md_compare_58 hb hH ih hyp)
        · replace hyp := md_ifn q hyp
          refine ag_iload d_Md_compare_44 rfl ?_
          refine ag_goto d_Md_compare_46 rfl ?_
          exact ag_dr (ag_d1 rfl (ag_d1 rfl (ag_d1 rfl (ag_d1 rfl ag_d0)))) (w_Md_compare_58 hb hH ih hyp)
theorem w_Md_compare_0 {l : Launch} {G : ag_G} {d N : Nat} {h : ag_H} {a : Nat} (hb : md_ok h a) (hH : 0 ≤ d) {x1 : Int32} {S : MS} {res : Int32 × MS} (hyp : fn_Md_compare_0 N x1 S = some res) : ag_ev gc_P l G m_Md_compare (d + 1) (ag_ret gc_P G (fun v h' => v = some (.int res.1) ∧ h' = md_up h a res.2)) 0 [(0, .ref a), (1, .int (x1))] [] (md_up h a S) := by
  unfold fn_Md_compare_0 at hyp
  refine ag_iconst d_Md_compare_0 ?_
  refine ag_istore_n d_Md_compare_1 (by decide) ?_
  refine ag_iconst d_Md_compare_2 ?_
  refine ag_istore_n d_Md_compare_3 (by decide) ?_
  exact ag_dr (ag_d1 rfl (ag_d1 rfl (ag_d1 rfl (ag_d1 rfl ag_d0)))) (w_Md_compare_4 hb hH N _ _ _ _ _ hyp)
theorem w_Md_compare {l : Launch} {G : ag_G} {d N : Nat} {h : ag_H} {a : Nat} (hb : md_ok h a) (hH : 1 ≤ d) {p1 : Int32} {S : MS} {res : Int32 × MS} (hyp : fn_Md_compare N p1 S = some res) : ag_Met gc_P l G m_Md_compare d [.ref a, .int (p1)] (md_up h a S) (fun v h' => v = some (.int res.1) ∧ h' = md_up h a res.2) := by
  obtain ⟨d, rfl, hG⟩ := md_dd hH
  exact ag_met (by decide) rfl (Nat.le_of_ble_eq_true rfl) (ag_dr (ag_d1 rfl (ag_d1 rfl ag_d0)) (w_Md_compare_0 hb hG hyp))
def fn_Md_complete_211 (N : Nat) (S : MS) : Option (Int32 × MS) := some (0, S)
def fn_Md_complete_206 (N : Nat) (x4 : Int32) (s1 : Int32) (s2 : Int32) (s3 : Int32) (s4 : Int32) (S : MS) : Option (Int32 × MS) := (fn_Md_add N (s1) (s2) (s3) (s4) (x4) S).bind fun r1 => fn_Md_complete_211 N  r1.2
def fn_Md_complete_183 (N : Nat) (x4 : Int32) (x5 : Int32) (x6 : Int32) (s1 : Int32) (s2 : Int32) (s3 : Int32) (S : MS) : Option (Int32 × MS) := if (x6) ≤ (Int32.ofInt 1) then (fn_Md_complete_206 N (x4) (s1) (s2) (s3) (Int32.ofInt 0) S) else (if md_in ((x5) + (Int32.ofInt 3)) (md_len 13) = true then ((fn_Md_worth N (S.2 13 ((x5) + (Int32.ofInt 3)).toNatClampNeg) S).bind fun r1 => fn_Md_complete_206 N (x4) (s1) (s2) (s3) (r1.1) r1.2) else none)
def fn_Md_complete_96 (N : Nat) : Nat → Int32 → Int32 → Int32 → MS → Option (Int32 × MS)
  | 0, _, _, _, _ => none
  | n + 1, x1, x4, x5, S => if md_in (x1) (md_len 12) = true then (if (S.2 12 (x1).toNatClampNeg) < (x5) then (if md_in ((((Int8.ofInt (16)).toInt32) * (x1)) + (Int32.ofInt 1)) (md_len 13) = true then (if md_in (((Int8.ofInt (16)).toInt32) * (x1)) (md_len 13) = true then (if (S.2 13 ((((Int8.ofInt (16)).toInt32) * (x1)) + (Int32.ofInt 1)).toNatClampNeg) ≤ (0) then (fn_Md_complete_183 N (x4) (((Int8.ofInt (16)).toInt32) * (x1)) (S.2 13 ((((Int8.ofInt (16)).toInt32) * (x1)) + (Int32.ofInt 1)).toNatClampNeg) (S.2 13 (((Int8.ofInt (16)).toInt32) * (x1)).toNatClampNeg) (S.2 13 ((((Int8.ofInt (16)).toInt32) * (x1)) + (Int32.ofInt 1)).toNatClampNeg) (Int32.ofInt 0) S) else (if md_in ((((Int8.ofInt (16)).toInt32) * (x1)) + (Int32.ofInt 2)) (md_len 13) = true then ((fn_Md_worth N (S.2 13 ((((Int8.ofInt (16)).toInt32) * (x1)) + (Int32.ofInt 2)).toNatClampNeg) S).bind fun r1 => fn_Md_complete_183 N (x4) (((Int8.ofInt (16)).toInt32) * (x1)) (S.2 13 ((((Int8.ofInt (16)).toInt32) * (x1)) + (Int32.ofInt 1)).toNatClampNeg) (S.2 13 (((Int8.ofInt (16)).toInt32) * (x1)).toNatClampNeg) (S.2 13 ((((Int8.ofInt (16)).toInt32) * (x1)) + (Int32.ofInt 1)).toNatClampNeg) (r1.1) r1.2) else none)) else none) else none) else (if md_in (x5) (md_len 18) = true then (if md_in (((Int32.ofInt 5) * (S.2 18 (x5).toNatClampNeg)) + (Int32.ofInt 4)) (md_len 17) = true then (fn_Md_complete_96 N n (x1) ((x4) ||| (S.2 17 (((Int32.ofInt 5) * (S.2 18 (x5).toNatClampNeg)) + (Int32.ofInt 4)).toNatClampNeg)) ((x5) + Int32.ofInt (1)) S) else none) else none)) else none
theorem fe_Md_complete_96 (N : Nat) (n : Nat) (x1 : Int32) (x4 : Int32) (x5 : Int32) (S : MS) : fn_Md_complete_96 N (n + 1) x1 x4 x5 S = (if md_in (x1) (md_len 12) = true then (if (S.2 12 (x1).toNatClampNeg) < (x5) then (if md_in ((((Int8.ofInt (16)).toInt32) * (x1)) + (Int32.ofInt 1)) (md_len 13) = true then (if md_in (((Int8.ofInt (16)).toInt32) * (x1)) (md_len 13) = true then (if (S.2 13 ((((Int8.ofInt (16)).toInt32) * (x1)) + (Int32.ofInt 1)).toNatClampNeg) ≤ (0) then (fn_Md_complete_183 N (x4) (((Int8.ofInt (16)).toInt32) * (x1)) (S.2 13 ((((Int8.ofInt (16)).toInt32) * (x1)) + (Int32.ofInt 1)).toNatClampNeg) (S.2 13 (((Int8.ofInt (16)).toInt32) * (x1)).toNatClampNeg) (S.2 13 ((((Int8.ofInt (16)).toInt32) * (x1)) + (Int32.ofInt 1)).toNatClampNeg) (Int32.ofInt 0) S) else (if md_in ((((Int8.ofInt (16)).toInt32) * (x1)) + (Int32.ofInt 2)) (md_len 13) = true then ((fn_Md_worth N (S.2 13 ((((Int8.ofInt (16)).toInt32) * (x1)) + (Int32.ofInt 2)).toNatClampNeg) S).bind fun r1 => fn_Md_complete_183 N (x4) (((Int8.ofInt (16)).toInt32) * (x1)) (S.2 13 ((((Int8.ofInt (16)).toInt32) * (x1)) + (Int32.ofInt 1)).toNatClampNeg) (S.2 13 (((Int8.ofInt (16)).toInt32) * (x1)).toNatClampNeg) (S.2 13 ((((Int8.ofInt (16)).toInt32) * (x1)) + (Int32.ofInt 1)).toNatClampNeg) (r1.1) r1.2) else none)) else none) else none) else (if md_in (x5) (md_len 18) = true then (if md_in (((Int32.ofInt 5) * (S.2 18 (x5).toNatClampNeg)) + (Int32.ofInt 4)) (md_len 17) = true then (fn_Md_complete_96 N n (x1) ((x4) ||| (S.2 17 (((Int32.ofInt 5) * (S.2 18 (x5).toNatClampNeg)) + (Int32.ofInt 4)).toNatClampNeg)) ((x5) + Int32.ofInt (1)) S) else none) else none)) else none) := rfl
def fn_Md_complete_71 (N : Nat) (x1 : Int32) (x2 : Int32) (x3 : Int32) (s1 : Int32) (S : MS) : Option (Int32 × MS) := if md_01 (s1) = true then (if (x2) = (0) then (fn_Md_complete_211 N  (va_up S.1 45 (s1), S.2)) else (if (x3) = (Int32.ofInt 1) then (if md_in (x1) (md_len 10) = true then (fn_Md_complete_96 N N (x1) ((Int32.ofInt 1) <<< (((va_up S.1 45 (s1), S.2).2 10 (x1).toNatClampNeg) &&& 31)) (Int32.ofInt 1) (va_up S.1 45 (s1), S.2)) else none) else (fn_Md_complete_211 N  (va_up S.1 45 (s1), S.2)))) else none
def fn_Md_complete_70 (N : Nat) (x1 : Int32) (x2 : Int32) (x3 : Int32) (S : MS) : Option (Int32 × MS) := fn_Md_complete_71 N (x1) (x2) (x3) (Int32.ofInt 0) S
def fn_Md_complete_50 (N : Nat) (x1 : Int32) (x2 : Int32) (x3 : Int32) (s1 : Int32) (S : MS) : Option (Int32 × MS) := if md_01 (s1) = true then (if ((va_up S.1 44 (s1), S.2).1 45) = (0) then (fn_Md_complete_70 N (x1) (x2) (x3) (va_up S.1 44 (s1), S.2)) else (if (x3) = (Int32.ofInt 1) then (fn_Md_complete_71 N (x1) (x2) (x3) (Int32.ofInt 1) (va_up S.1 44 (s1), S.2)) else (fn_Md_complete_70 N (x1) (x2) (x3) (va_up S.1 44 (s1), S.2)))) else none
def fn_Md_complete_45 (N : Nat) (x1 : Int32) (x2 : Int32) (x3 : Int32) (S : MS) : Option (Int32 × MS) := fn_Md_complete_50 N (x1) (x2) (x3) (Int32.ofInt 1) S
def fn_Md_complete_29 (N : Nat) (x1 : Int32) (x2 : Int32) (x3 : Int32) (s1 : Int32) (S : MS) : Option (Int32 × MS) := if md_01 (s1) = true then (if ((va_up S.1 43 (s1), S.2).1 44) = (0) then (if (x3) = (Int32.ofInt 2) then (fn_Md_complete_45 N (x1) (x2) (x3) (va_up S.1 43 (s1), S.2)) else (fn_Md_complete_50 N (x1) (x2) (x3) (Int32.ofInt 0) (va_up S.1 43 (s1), S.2))) else (fn_Md_complete_45 N (x1) (x2) (x3) (va_up S.1 43 (s1), S.2))) else none
def fn_Md_complete_24 (N : Nat) (x1 : Int32) (x2 : Int32) (x3 : Int32) (S : MS) : Option (Int32 × MS) := fn_Md_complete_29 N (x1) (x2) (x3) (Int32.ofInt 1) S
def fn_Md_complete_0 (N : Nat) (x1 : Int32) (x2 : Int32) (S : MS) : Option (Int32 × MS) := (fn_Md_compare N (x1) S).bind fun r1 => if md_01 (Int32.ofInt 1) = true then (if ((va_up r1.2.1 42 (Int32.ofInt 1), r1.2.2).1 43) = (0) then (if (r1.1) = (Int32.ofInt 1) then (fn_Md_complete_24 N (x1) (x2) (r1.1) (va_up r1.2.1 42 (Int32.ofInt 1), r1.2.2)) else (fn_Md_complete_29 N (x1) (x2) (r1.1) (Int32.ofInt 0) (va_up r1.2.1 42 (Int32.ofInt 1), r1.2.2))) else (fn_Md_complete_24 N (x1) (x2) (r1.1) (va_up r1.2.1 42 (Int32.ofInt 1), r1.2.2))) else none
def fn_Md_complete (N : Nat) (p1 : Int32) (p2 : Int32) (S : MS) : Option (Int32 × MS) := fn_Md_complete_0 N p1 p2 S
theorem w_Md_complete_211 {l : Launch} {G : ag_G} {d N : Nat} {h : ag_H} {a : Nat} (hb : md_ok h a) (hH : 1 ≤ d) {S : MS} {res : Int32 × MS} (hyp : fn_Md_complete_211 N S = some res) : ag_ev gc_P l G m_Md_complete (d + 1) (ag_ret gc_P G (fun v h' => v = none ∧ h' = md_up h a res.2)) 211 [(0, .ref a)] [] (md_up h a S) := by
  unfold fn_Md_complete_211 at hyp
  cases hyp
  exact ag_vret d_Md_complete_211 rfl ⟨rfl, rfl⟩
theorem w_Md_complete_206 {l : Launch} {G : ag_G} {d N : Nat} {h : ag_H} {a : Nat} (hb : md_ok h a) (hH : 1 ≤ d) {x4 : Int32} {s1 : Int32} {s2 : Int32} {s3 : Int32} {s4 : Int32} {S : MS} {res : Int32 × MS} (hyp : fn_Md_complete_206 N x4 s1 s2 s3 s4 S = some res) : ag_ev gc_P l G m_Md_complete (d + 1) (ag_ret gc_P G (fun v h' => v = none ∧ h' = md_up h a res.2)) 206 [(0, .ref a), (4, .int (x4))] [.int (s4), .int (s3), .int (s2), .int (s1), .ref a] (md_up h a S) := by
  unfold fn_Md_complete_206 at hyp
  refine ag_iload d_Md_complete_206 rfl ?_
  obtain ⟨r1, e1, hyp⟩ := md_bd hyp
  refine ag_callv (as := [.int (s1), .int (s2), .int (s3), .int (s4), .int (x4)]) d_Md_complete_208 ml_Md_249 gw_1238 rfl sl_Md_add (md_at0 hb _) (Nat.le_of_ble_eq_true rfl) (w_Md_add hb (d := d) (by omega) e1) (fun v1 h1 q1 => ?_)
  obtain ⟨rfl, rfl⟩ := q1
  exact ag_dr (ag_d1 rfl ag_d0) (w_Md_complete_211 hb hH hyp)
theorem w_Md_complete_183 {l : Launch} {G : ag_G} {d N : Nat} {h : ag_H} {a : Nat} (hb : md_ok h a) (hH : 1 ≤ d) {x4 : Int32} {x5 : Int32} {x6 : Int32} {s1 : Int32} {s2 : Int32} {s3 : Int32} {S : MS} {res : Int32 × MS} (hyp : fn_Md_complete_183 N x4 x5 x6 s1 s2 s3 S = some res) : ag_ev gc_P l G m_Md_complete (d + 1) (ag_ret gc_P G (fun v h' => v = none ∧ h' = md_up h a res.2)) 183 [(0, .ref a), (4, .int (x4)), (5, .int (x5)), (6, .int (x6))] [.int (s3), .int (s2), .int (s1), .ref a] (md_up h a S) := by
  unfold fn_Md_complete_183 at hyp
  refine ag_iload d_Md_complete_183 rfl ?_
  refine ag_iconst d_Md_complete_185 ?_
  refine ag_icmp_le d_Md_complete_186 rfl (fun q => ?_) (fun q => ?_)
  · replace hyp := md_ifp q hyp
    refine ag_iconst d_Md_complete_205 ?_
    exact ag_dr (ag_d1 rfl (ag_d1 rfl ag_d0)) (w_Md_complete_206 hb hH hyp)
  · replace hyp := md_ifn q hyp
    refine ag_aload_n d_Md_complete_189 rfl ?_
    refine ag_aload_n d_Md_complete_190 rfl ?_
    refine md_get hb d_Md_complete_191 fr_Md_57 rfl ?_
    refine ag_iload d_Md_complete_194 rfl ?_
    refine ag_iconst d_Md_complete_196 ?_
    refine ag_iadd d_Md_complete_197 ?_
    obtain ⟨qi, hyp⟩ := md_ifs hyp
    refine md_ald hb d_Md_complete_198 (by decide) (by decide) rfl qi ?_
    obtain ⟨r1, e1, hyp⟩ := md_bd hyp
    refine ag_callv (as := [.int (S.2 13 ((x5) + (Int32.ofInt 3)).toNatClampNeg)]) d_Md_complete_199 ml_Md_246 gw_1234 rfl sl_Md_worth (md_at0 hb _) (Nat.le_of_ble_eq_true rfl) (w_Md_worth hb (d := d) (by omega) e1) (fun v1 h1 q1 => ?_)
    obtain ⟨rfl, rfl⟩ := q1
    refine ag_goto d_Md_complete_202 rfl ?_
    exact ag_dr (ag_d1 rfl (ag_d1 rfl ag_d0)) (w_Md_complete_206 hb hH hyp)
theorem w_Md_complete_96 {l : Launch} {G : ag_G} {d N : Nat} {h : ag_H} {a : Nat} (hb : md_ok h a) (hH : 1 ≤ d) : ∀ (n : Nat) (res : Int32 × MS) (x1 : Int32) (x4 : Int32) (x5 : Int32) (S : MS) , fn_Md_complete_96 N n x1 x4 x5 S = some res → ag_ev gc_P l G m_Md_complete (d + 1) (ag_ret gc_P G (fun v h' => v = none ∧ h' = md_up h a res.2)) 96 [(0, .ref a), (1, .int (x1)), (4, .int (x4)), (5, .int (x5))] [] (md_up h a S) := by
  intro n
  induction n with
  | zero =>
    intro res x1 x4 x5 S hyp
    cases hyp
  | succ n ih =>
    intro res x1 x4 x5 S hyp
    rw [fe_Md_complete_96] at hyp
    refine ag_iload d_Md_complete_96 rfl ?_
    refine ag_aload_n d_Md_complete_98 rfl ?_
    refine md_get hb d_Md_complete_99 fr_Md_54 rfl ?_
    refine ag_iload_n d_Md_complete_102 rfl ?_
    obtain ⟨qi, hyp⟩ := md_ifs hyp
    refine md_ald hb d_Md_complete_103 (by decide) (by decide) rfl qi ?_
    refine ag_icmp_gt d_Md_complete_104 rfl (fun q => ?_) (fun q => ?_)
    · replace hyp := md_ifp q hyp
      refine ag_bipush d_Md_complete_134 ?_
      refine ag_iload_n d_Md_complete_136 rfl ?_
      refine ag_imul d_Md_complete_137 ?_
      refine ag_istore d_Md_complete_138 (by decide) ?_
      refine ag_aload_n d_Md_complete_140 rfl ?_
      refine md_get hb d_Md_complete_141 fr_Md_57 rfl ?_
      refine ag_iload d_Md_complete_144 rfl ?_
      refine ag_iconst d_Md_complete_146 ?_
      refine ag_iadd d_Md_complete_147 ?_
      obtain ⟨qi, hyp⟩ := md_ifs hyp
      refine md_ald hb d_Md_complete_148 (by decide) (by decide) rfl qi ?_
      refine ag_istore d_Md_complete_149 (by decide) ?_
      refine ag_aload_n d_Md_complete_151 rfl ?_
      refine ag_aload_n d_Md_complete_152 rfl ?_
      refine md_get hb d_Md_complete_153 fr_Md_57 rfl ?_
      refine ag_iload d_Md_complete_156 rfl ?_
      obtain ⟨qi, hyp⟩ := md_ifs hyp
      refine md_ald hb d_Md_complete_158 (by decide) (by decide) rfl qi ?_
      refine ag_iload d_Md_complete_159 rfl ?_
      refine ag_iload d_Md_complete_161 rfl ?_
      refine ag_if_le d_Md_complete_163 rfl (fun q => ?_) (fun q => ?_)
      · replace hyp := md_ifp q hyp
        refine ag_iconst d_Md_complete_182 ?_
        exact ag_dr (ag_d1 rfl (ag_d1 rfl (ag_d1 rfl (ag_d1 rfl ag_d0)))) (w_Md_complete_183 hb hH hyp)
      · replace hyp := md_ifn q hyp
        refine ag_aload_n d_Md_complete_166 rfl ?_
        refine ag_aload_n d_Md_complete_167 rfl ?_
        refine md_get hb d_Md_complete_168 fr_Md_57 rfl ?_
        refine ag_iload d_Md_complete_171 rfl ?_
        refine ag_iconst d_Md_complete_173 ?_
        refine ag_iadd d_Md_complete_174 ?_
        obtain ⟨qi, hyp⟩ := md_ifs hyp
        refine md_ald hb d_Md_complete_175 (by decide) (by decide) rfl qi ?_
        obtain ⟨r1, e1, hyp⟩ := md_bd hyp
        refine ag_callv (as := [.int (S.2 13 ((((Int8.ofInt (16)).toInt32) * (x1)) + (Int32.ofInt 2)).toNatClampNeg)]) d_Md_complete_176 ml_Md_246 gw_1234 rfl sl_Md_worth (md_at0 hb _) (Nat.le_of_ble_eq_true rfl) (w_Md_worth hb (d := d) (by omega) e1) (fun v1 h1 q1 => ?_)
        obtain ⟨rfl, rfl⟩ := q1
        refine ag_goto d_Md_complete_179 rfl ?_
        exact ag_dr (ag_d1 rfl (ag_d1 rfl (ag_d1 rfl (ag_d1 rfl ag_d0)))) (w_Md_complete_183 hb hH hyp)
    · replace hyp := md_ifn q hyp
      refine ag_iload d_Md_complete_107 rfl ?_
      refine ag_aload_n d_Md_complete_109 rfl ?_
      refine md_get hb d_Md_complete_110 fr_Md_69 rfl ?_
      refine ag_iconst d_Md_complete_113 ?_
      refine ag_aload_n d_Md_complete_114 rfl ?_
      refine md_get hb d_Md_complete_115 fr_Md_72 rfl ?_
      refine ag_iload d_Md_complete_118 rfl ?_
      obtain ⟨qi, hyp⟩ := md_ifs hyp
      refine md_ald hb d_Md_complete_120 (by decide) (by decide) rfl qi ?_
      refine ag_imul d_Md_complete_121 ?_
      refine ag_iconst d_Md_complete_122 ?_
      refine ag_iadd d_Md_complete_123 ?_
      obtain ⟨qi, hyp⟩ := md_ifs hyp
      refine md_ald hb d_Md_complete_124 (by decide) (by decide) rfl qi ?_
      refine ag_ior d_Md_complete_125 ?_
      refine ag_istore d_Md_complete_126 (by decide) ?_
      refine ag_iinc d_Md_complete_128 rfl (by decide) ?_
      refine ag_goto d_Md_complete_131 rfl ?_
      exact ag_dr (ag_d1 rfl (ag_d1 rfl (ag_d1 rfl (ag_d1 rfl ag_d0)))) (ih _ _ _ _ _ hyp)
theorem w_Md_complete_71 {l : Launch} {G : ag_G} {d N : Nat} {h : ag_H} {a : Nat} (hb : md_ok h a) (hH : 1 ≤ d) {x1 : Int32} {x2 : Int32} {x3 : Int32} {s1 : Int32} {S : MS} {res : Int32 × MS} (hyp : fn_Md_complete_71 N x1 x2 x3 s1 S = some res) : ag_ev gc_P l G m_Md_complete (d + 1) (ag_ret gc_P G (fun v h' => v = none ∧ h' = md_up h a res.2)) 71 [(0, .ref a), (1, .int (x1)), (2, .int (x2)), (3, .int (x3))] [.int (s1), .ref a] (md_up h a S) := by
  unfold fn_Md_complete_71 at hyp
  obtain ⟨qz, hyp⟩ := md_ifs hyp
  refine md_putz hb d_Md_complete_71 fl_Md_230 rfl (by decide) qz ?_
  refine ag_iload_n d_Md_complete_74 rfl ?_
  refine ag_if_eq d_Md_complete_75 rfl (fun q => ?_) (fun q => ?_)
  · replace hyp := md_ifp q hyp
    exact ag_dr (ag_d1 rfl ag_d0) (w_Md_complete_211 hb hH hyp)
  · replace hyp := md_ifn q hyp
    refine ag_iload_n d_Md_complete_78 rfl ?_
    refine ag_iconst d_Md_complete_79 ?_
    refine ag_icmp_ne d_Md_complete_80 rfl (fun q => ?_) (fun q => ?_)
    · replace hyp := md_ifn q hyp
      exact ag_dr (ag_d1 rfl ag_d0) (w_Md_complete_211 hb hH hyp)
    · replace hyp := md_ifp q hyp
      refine ag_iconst d_Md_complete_83 ?_
      refine ag_aload_n d_Md_complete_84 rfl ?_
      refine md_get hb d_Md_complete_85 fr_Md_48 rfl ?_
      refine ag_iload_n d_Md_complete_88 rfl ?_
      obtain ⟨qi, hyp⟩ := md_ifs hyp
      refine md_ald hb d_Md_complete_89 (by decide) (by decide) rfl qi ?_
      refine ag_ishl d_Md_complete_90 ?_
      refine ag_istore d_Md_complete_91 (by decide) ?_
      refine ag_iconst d_Md_complete_93 ?_
      refine ag_istore d_Md_complete_94 (by decide) ?_
      exact ag_dr (ag_d1 rfl (ag_d1 rfl (ag_d1 rfl (ag_d1 rfl ag_d0)))) (w_Md_complete_96 hb hH N _ _ _ _ _ hyp)
theorem w_Md_complete_70 {l : Launch} {G : ag_G} {d N : Nat} {h : ag_H} {a : Nat} (hb : md_ok h a) (hH : 1 ≤ d) {x1 : Int32} {x2 : Int32} {x3 : Int32} {S : MS} {res : Int32 × MS} (hyp : fn_Md_complete_70 N x1 x2 x3 S = some res) : ag_ev gc_P l G m_Md_complete (d + 1) (ag_ret gc_P G (fun v h' => v = none ∧ h' = md_up h a res.2)) 70 [(0, .ref a), (1, .int (x1)), (2, .int (x2)), (3, .int (x3))] [.ref a] (md_up h a S) := by
  unfold fn_Md_complete_70 at hyp
  refine ag_iconst d_Md_complete_70 ?_
  exact ag_dr (ag_d1 rfl (ag_d1 rfl (ag_d1 rfl (ag_d1 rfl ag_d0)))) (w_Md_complete_71 hb hH hyp)
theorem w_Md_complete_50 {l : Launch} {G : ag_G} {d N : Nat} {h : ag_H} {a : Nat} (hb : md_ok h a) (hH : 1 ≤ d) {x1 : Int32} {x2 : Int32} {x3 : Int32} {s1 : Int32} {S : MS} {res : Int32 × MS} (hyp : fn_Md_complete_50 N x1 x2 x3 s1 S = some res) : ag_ev gc_P l G m_Md_complete (d + 1) (ag_ret gc_P G (fun v h' => v = none ∧ h' = md_up h a res.2)) 50 [(0, .ref a), (1, .int (x1)), (2, .int (x2)), (3, .int (x3))] [.int (s1), .ref a] (md_up h a S) := by
  unfold fn_Md_complete_50 at hyp
  obtain ⟨qz, hyp⟩ := md_ifs hyp
  refine md_putz hb d_Md_complete_50 fl_Md_227 rfl (by decide) qz ?_
  refine ag_aload_n d_Md_complete_53 rfl ?_
  refine ag_aload_n d_Md_complete_54 rfl ?_
  refine md_get hb d_Md_complete_55 fr_Md_230 rfl ?_
  refine ag_if_eq d_Md_complete_58 rfl (fun q => ?_) (fun q => ?_)
  · replace hyp := md_ifp q hyp
    exact ag_dr (ag_d1 rfl (ag_d1 rfl (ag_d1 rfl (ag_d1 rfl ag_d0)))) (w_Md_complete_70 hb hH hyp)
  · replace hyp := md_ifn q hyp
    refine ag_iload_n d_Md_complete_61 rfl ?_
    refine ag_iconst d_Md_complete_62 ?_
    refine ag_icmp_ne d_Md_complete_63 rfl (fun q => ?_) (fun q => ?_)
    · replace hyp := md_ifn q hyp
      exact ag_dr (ag_d1 rfl (ag_d1 rfl (ag_d1 rfl (ag_d1 rfl ag_d0)))) (w_Md_complete_70 hb hH hyp)
    · replace hyp := md_ifp q hyp
      refine ag_iconst d_Md_complete_66 ?_
      refine ag_goto d_Md_complete_67 rfl ?_
      exact ag_dr (ag_d1 rfl (ag_d1 rfl (ag_d1 rfl (ag_d1 rfl ag_d0)))) (w_Md_complete_71 hb hH hyp)
theorem w_Md_complete_45 {l : Launch} {G : ag_G} {d N : Nat} {h : ag_H} {a : Nat} (hb : md_ok h a) (hH : 1 ≤ d) {x1 : Int32} {x2 : Int32} {x3 : Int32} {S : MS} {res : Int32 × MS} (hyp : fn_Md_complete_45 N x1 x2 x3 S = some res) : ag_ev gc_P l G m_Md_complete (d + 1) (ag_ret gc_P G (fun v h' => v = none ∧ h' = md_up h a res.2)) 45 [(0, .ref a), (1, .int (x1)), (2, .int (x2)), (3, .int (x3))] [.ref a] (md_up h a S) := by
  unfold fn_Md_complete_45 at hyp
  refine ag_iconst d_Md_complete_45 ?_
  refine ag_goto d_Md_complete_46 rfl ?_
  exact ag_dr (ag_d1 rfl (ag_d1 rfl (ag_d1 rfl (ag_d1 rfl ag_d0)))) (w_Md_complete_50 hb hH hyp)
theorem w_Md_complete_29 {l : Launch} {G : ag_G} {d N : Nat} {h : ag_H} {a : Nat} (hb : md_ok h a) (hH : 1 ≤ d) {x1 : Int32} {x2 : Int32} {x3 : Int32} {s1 : Int32} {S : MS} {res : Int32 × MS} (hyp : fn_Md_complete_29 N x1 x2 x3 s1 S = some res) : ag_ev gc_P l G m_Md_complete (d + 1) (ag_ret gc_P G (fun v h' => v = none ∧ h' = md_up h a res.2)) 29 [(0, .ref a), (1, .int (x1)), (2, .int (x2)), (3, .int (x3))] [.int (s1), .ref a] (md_up h a S) := by
  unfold fn_Md_complete_29 at hyp
  obtain ⟨qz, hyp⟩ := md_ifs hyp
  refine md_putz hb d_Md_complete_29 fl_Md_224 rfl (by decide) qz ?_
  refine ag_aload_n d_Md_complete_32 rfl ?_
  refine ag_aload_n d_Md_complete_33 rfl ?_
  refine md_get hb d_Md_complete_34 fr_Md_227 rfl ?_
  refine ag_if_ne d_Md_complete_37 rfl (fun q => ?_) (fun q => ?_)
  · replace hyp := md_ifn q hyp
    exact ag_dr (ag_d1 rfl (ag_d1 rfl (ag_d1 rfl (ag_d1 rfl ag_d0)))) (w_Md_complete_45 hb hH hyp)
  · replace hyp := md_ifp q hyp
    refine ag_iload_n d_Md_complete_40 rfl ?_
    refine ag_iconst d_Md_complete_41 ?_
    refine ag_icmp_ne d_Md_complete_42 rfl (fun q => ?_) (fun q => ?_)
    · replace hyp := md_ifn q hyp
      refine ag_iconst d_Md_complete_49 ?_
      exact ag_dr (ag_d1 rfl (ag_d1 rfl (ag_d1 rfl (ag_d1 rfl ag_d0)))) (w_Md_complete_50 hb hH hyp)
    · replace hyp := md_ifp q hyp
      exact ag_dr (ag_d1 rfl (ag_d1 rfl (ag_d1 rfl (ag_d1 rfl ag_d0)))) (w_Md_complete_45 hb hH hyp)
theorem w_Md_complete_24 {l : Launch} {G : ag_G} {d N : Nat} {h : ag_H} {a : Nat} (hb : md_ok h a) (hH : 1 ≤ d) {x1 : Int32} {x2 : Int32} {x3 : Int32} {S : MS} {res : Int32 × MS} (hyp : fn_Md_complete_24 N x1 x2 x3 S = some res) : ag_ev gc_P l G m_Md_complete (d + 1) (ag_ret gc_P G (fun v h' => v = none ∧ h' = md_up h a res.2)) 24 [(0, .ref a), (1, .int (x1)), (2, .int (x2)), (3, .int (x3))] [.ref a] (md_up h a S) := by
  unfold fn_Md_complete_24 at hyp
  refine ag_iconst d_Md_complete_24 ?_
  refine ag_goto d_Md_complete_25 rfl ?_
  exact ag_dr (ag_d1 rfl (ag_d1 rfl (ag_d1 rfl (ag_d1 rfl ag_d0)))) (w_Md_complete_29 hb hH hyp)
theorem w_Md_complete_0 {l : Launch} {G : ag_G} {d N : Nat} {h : ag_H} {a : Nat} (hb : md_ok h a) (hH : 1 ≤ d) {x1 : Int32} {x2 : Int32} {S : MS} {res : Int32 × MS} (hyp : fn_Md_complete_0 N x1 x2 S = some res) : ag_ev gc_P l G m_Md_complete (d + 1) (ag_ret gc_P G (fun v h' => v = none ∧ h' = md_up h a res.2)) 0 [(0, .ref a), (1, .int (x1)), (2, .int (x2))] [] (md_up h a S) := by
  unfold fn_Md_complete_0 at hyp
  refine ag_aload_n d_Md_complete_0 rfl ?_
  refine ag_iload_n d_Md_complete_1 rfl ?_
  obtain ⟨r1, e1, hyp⟩ := md_bd hyp
  refine ag_callv (as := [.int (x1)]) d_Md_complete_2 ml_Md_243 gw_1262 rfl sl_Md_compare (md_at0 hb _) (Nat.le_of_ble_eq_true rfl) (w_Md_compare hb (d := d) (by omega) e1) (fun v1 h1 q1 => ?_)
  obtain ⟨rfl, rfl⟩ := q1
  refine ag_istore_n d_Md_complete_5 (by decide) ?_
  refine ag_aload_n d_Md_complete_6 rfl ?_
  refine ag_iconst d_Md_complete_7 ?_
  obtain ⟨qz, hyp⟩ := md_ifs hyp
  refine md_putz hb d_Md_complete_8 fl_Md_221 rfl (by decide) qz ?_
  refine ag_aload_n d_Md_complete_11 rfl ?_
  refine ag_aload_n d_Md_complete_12 rfl ?_
  refine md_get hb d_Md_complete_13 fr_Md_224 rfl ?_
  refine ag_if_ne d_Md_complete_16 rfl (fun q => ?_) (fun q => ?_)
  · replace hyp := md_ifn q hyp
    exact ag_dr (ag_d1 rfl (ag_d1 rfl (ag_d1 rfl (ag_d1 rfl ag_d0)))) (w_Md_complete_24 hb hH hyp)
  · replace hyp := md_ifp q hyp
    refine ag_iload_n d_Md_complete_19 rfl ?_
    refine ag_iconst d_Md_complete_20 ?_
    refine ag_icmp_ne d_Md_complete_21 rfl (fun q => ?_) (fun q => ?_)
    · replace hyp := md_ifn q hyp
      refine ag_iconst d_Md_complete_28 ?_
      exact ag_dr (ag_d1 rfl (ag_d1 rfl (ag_d1 rfl (ag_d1 rfl ag_d0)))) (w_Md_complete_29 hb hH hyp)
    · replace hyp := md_ifp q hyp
      exact ag_dr (ag_d1 rfl (ag_d1 rfl (ag_d1 rfl (ag_d1 rfl ag_d0)))) (w_Md_complete_24 hb hH hyp)
theorem w_Md_complete {l : Launch} {G : ag_G} {d N : Nat} {h : ag_H} {a : Nat} (hb : md_ok h a) (hH : 2 ≤ d) {p1 : Int32} {p2 : Int32} {S : MS} {res : Int32 × MS} (hyp : fn_Md_complete N p1 p2 S = some res) : ag_Met gc_P l G m_Md_complete d [.ref a, .int (p1), .int (p2)] (md_up h a S) (fun v h' => v = none ∧ h' = md_up h a res.2) := by
  obtain ⟨d, rfl, hG⟩ := md_dd hH
  exact ag_met (by decide) rfl (Nat.le_of_ble_eq_true rfl) (ag_dr (ag_d1 rfl (ag_d1 rfl (ag_d1 rfl ag_d0))) (w_Md_complete_0 hb hG hyp))
def fn_Md_bindings_36 (N : Nat) : Nat → Int32 → Int32 → Int32 → MS → Option (Int32 × MS)
  | 0, _, _, _, _ => none
  | n + 1, x1, x2, x3, S => if (x3) ≤ (0) then (some (0, S)) else (if md_in (x3) (md_len 18) = true then (if md_in (x3) (md_len 18) = true then (if md_in (x3) (md_len 18) = true then (if ((S.1, va_up S.2 18 (upd (S.2 18) (x3).toNatClampNeg ((S.2 18 (x3).toNatClampNeg) + (Int32.ofInt 1)))).2 18 (x3).toNatClampNeg) < ((S.1, va_up S.2 18 (upd (S.2 18) (x3).toNatClampNeg ((S.2 18 (x3).toNatClampNeg) + (Int32.ofInt 1)))).1 33) then (if md_in (x3) (md_len 18) = true then ((fn_Md_fit N (x1) (x3) ((S.1, va_up S.2 18 (upd (S.2 18) (x3).toNatClampNeg ((S.2 18 (x3).toNatClampNeg) + (Int32.ofInt 1)))).2 18 (x3).toNatClampNeg) (S.1, va_up S.2 18 (upd (S.2 18) (x3).toNatClampNeg ((S.2 18 (x3).toNatClampNeg) + (Int32.ofInt 1))))).bind fun r1 => if (r1.1) = (0) then (fn_Md_bindings_36 N n (x1) (x2) (x3) r1.2) else (if md_in (x1) (md_len 12) = true then (if (r1.2.2 12 (x1).toNatClampNeg) ≤ (x3) then ((fn_Md_complete N (x1) (x2) r1.2).bind fun r2 => fn_Md_bindings_36 N n (x1) (x2) (x3) r2.2) else (if md_in ((x3) + Int32.ofInt (1)) (md_len 18) = true then (fn_Md_bindings_36 N n (x1) (x2) ((x3) + Int32.ofInt (1)) (r1.2.1, va_up r1.2.2 18 (upd (r1.2.2 18) ((x3) + Int32.ofInt (1)).toNatClampNeg (Int32.ofInt (-1))))) else none)) else none)) else none) else (fn_Md_bindings_36 N n (x1) (x2) ((x3) + Int32.ofInt (-1)) (S.1, va_up S.2 18 (upd (S.2 18) (x3).toNatClampNeg ((S.2 18 (x3).toNatClampNeg) + (Int32.ofInt 1)))))) else none) else none) else none)
theorem fe_Md_bindings_36 (N : Nat) (n : Nat) (x1 : Int32) (x2 : Int32) (x3 : Int32) (S : MS) : fn_Md_bindings_36 N (n + 1) x1 x2 x3 S = (if (x3) ≤ (0) then (some (0, S)) else (if md_in (x3) (md_len 18) = true then (if md_in (x3) (md_len 18) = true then (if md_in (x3) (md_len 18) = true then (if ((S.1, va_up S.2 18 (upd (S.2 18) (x3).toNatClampNeg ((S.2 18 (x3).toNatClampNeg) + (Int32.ofInt 1)))).2 18 (x3).toNatClampNeg) < ((S.1, va_up S.2 18 (upd (S.2 18) (x3).toNatClampNeg ((S.2 18 (x3).toNatClampNeg) + (Int32.ofInt 1)))).1 33) then (if md_in (x3) (md_len 18) = true then ((fn_Md_fit N (x1) (x3) ((S.1, va_up S.2 18 (upd (S.2 18) (x3).toNatClampNeg ((S.2 18 (x3).toNatClampNeg) + (Int32.ofInt 1)))).2 18 (x3).toNatClampNeg) (S.1, va_up S.2 18 (upd (S.2 18) (x3).toNatClampNeg ((S.2 18 (x3).toNatClampNeg) + (Int32.ofInt 1))))).bind fun r1 => if (r1.1) = (0) then (fn_Md_bindings_36 N n (x1) (x2) (x3) r1.2) else (if md_in (x1) (md_len 12) = true then (if (r1.2.2 12 (x1).toNatClampNeg) ≤ (x3) then ((fn_Md_complete N (x1) (x2) r1.2).bind fun r2 => fn_Md_bindings_36 N n (x1) (x2) (x3) r2.2) else (if md_in ((x3) + Int32.ofInt (1)) (md_len 18) = true then (fn_Md_bindings_36 N n (x1) (x2) ((x3) + Int32.ofInt (1)) (r1.2.1, va_up r1.2.2 18 (upd (r1.2.2 18) ((x3) + Int32.ofInt (1)).toNatClampNeg (Int32.ofInt (-1))))) else none)) else none)) else none) else (fn_Md_bindings_36 N n (x1) (x2) ((x3) + Int32.ofInt (-1)) (S.1, va_up S.2 18 (upd (S.2 18) (x3).toNatClampNeg ((S.2 18 (x3).toNatClampNeg) + (Int32.ofInt 1)))))) else none) else none) else none)) := rfl
def fn_Md_bindings_0 (N : Nat) (x1 : Int32) (x2 : Int32) (S : MS) : Option (Int32 × MS) := if md_01 (Int32.ofInt 0) = true then (if md_01 (Int32.ofInt 0) = true then (if md_01 (Int32.ofInt 0) = true then (if md_01 (Int32.ofInt 1) = true then (if md_in (Int32.ofInt 1) (md_len 19) = true then (if md_in (Int32.ofInt 1) (md_len 18) = true then (fn_Md_bindings_36 N N (x1) (x2) (Int32.ofInt 1) (((va_up (va_up (va_up (va_up S.1 42 (Int32.ofInt 0), S.2).1 43 (Int32.ofInt 0), (va_up S.1 42 (Int32.ofInt 0), S.2).2).1 44 (Int32.ofInt 0), (va_up (va_up S.1 42 (Int32.ofInt 0), S.2).1 43 (Int32.ofInt 0), (va_up S.1 42 (Int32.ofInt 0), S.2).2).2).1 45 (Int32.ofInt 1), (va_up (va_up (va_up S.1 42 (Int32.ofInt 0), S.2).1 43 (Int32.ofInt 0), (va_up S.1 42 (Int32.ofInt 0), S.2).2).1 44 (Int32.ofInt 0), (va_up (va_up S.1 42 (Int32.ofInt 0), S.2).1 43 (Int32.ofInt 0), (va_up S.1 42 (Int32.ofInt 0), S.2).2).2).2).1, va_up (va_up (va_up (va_up (va_up S.1 42 (Int32.ofInt 0), S.2).1 43 (Int32.ofInt 0), (va_up S.1 42 (Int32.ofInt 0), S.2).2).1 44 (Int32.ofInt 0), (va_up (va_up S.1 42 (Int32.ofInt 0), S.2).1 43 (Int32.ofInt 0), (va_up S.1 42 (Int32.ofInt 0), S.2).2).2).1 45 (Int32.ofInt 1), (va_up (va_up (va_up S.1 42 (Int32.ofInt 0), S.2).1 43 (Int32.ofInt 0), (va_up S.1 42 (Int32.ofInt 0), S.2).2).1 44 (Int32.ofInt 0), (va_up (va_up S.1 42 (Int32.ofInt 0), S.2).1 43 (Int32.ofInt 0), (va_up S.1 42 (Int32.ofInt 0), S.2).2).2).2).2 19 (upd ((va_up (va_up (va_up (va_up S.1 42 (Int32.ofInt 0), S.2).1 43 (Int32.ofInt 0), (va_up S.1 42 (Int32.ofInt 0), S.2).2).1 44 (Int32.ofInt 0), (va_up (va_up S.1 42 (Int32.ofInt 0), S.2).1 43 (Int32.ofInt 0), (va_up S.1 42 (Int32.ofInt 0), S.2).2).2).1 45 (Int32.ofInt 1), (va_up (va_up (va_up S.1 42 (Int32.ofInt 0), S.2).1 43 (Int32.ofInt 0), (va_up S.1 42 (Int32.ofInt 0), S.2).2).1 44 (Int32.ofInt 0), (va_up (va_up S.1 42 (Int32.ofInt 0), S.2).1 43 (Int32.ofInt 0), (va_up S.1 42 (Int32.ofInt 0), S.2).2).2).2).2 19) (Int32.ofInt 1).toNatClampNeg (Int32.ofInt 0))).1, va_up ((va_up (va_up (va_up (va_up S.1 42 (Int32.ofInt 0), S.2).1 43 (Int32.ofInt 0), (va_up S.1 42 (Int32.ofInt 0), S.2).2).1 44 (Int32.ofInt 0), (va_up (va_up S.1 42 (Int32.ofInt 0), S.2).1 43 (Int32.ofInt 0), (va_up S.1 42 (Int32.ofInt 0), S.2).2).2).1 45 (Int32.ofInt 1), (va_up (va_up (va_up S.1 42 (Int32.ofInt 0), S.2).1 43 (Int32.ofInt 0), (va_up S.1 42 (Int32.ofInt 0), S.2).2).1 44 (Int32.ofInt 0), (va_up (va_up S.1 42 (Int32.ofInt 0), S.2).1 43 (Int32.ofInt 0), (va_up S.1 42 (Int32.ofInt 0), S.2).2).2).2).1, va_up (va_up (va_up (va_up (va_up S.1 42 (Int32.ofInt 0), S.2).1 43 (Int32.ofInt 0), (va_up S.1 42 (Int32.ofInt 0), S.2).2).1 44 (Int32.ofInt 0), (va_up (va_up S.1 42 (Int32.ofInt 0), S.2).1 43 (Int32.ofInt 0), (va_up S.1 42 (Int32.ofInt 0), S.2).2).2).1 45 (Int32.ofInt 1), (va_up (va_up (va_up S.1 42 (Int32.ofInt 0), S.2).1 43 (Int32.ofInt 0), (va_up S.1 42 (Int32.ofInt 0), S.2).2).1 44 (Int32.ofInt 0), (va_up (va_up S.1 42 (Int32.ofInt 0), S.2).1 43 (Int32.ofInt 0), (va_up S.1 42 (Int32.ofInt 0), S.2).2).2).2).2 19 (upd ((va_up (va_up (va_up (va_up S.1 42 (Int32.ofInt 0), S.2).1 43 (Int32.ofInt 0), (va_up S.1 42 (Int32.ofInt 0), S.2).2).1 44 (Int32.ofInt 0), (va_up (va_up S.1 42 (Int32.ofInt 0), S.2).1 43 (Int32.ofInt 0), (va_up S.1 42 (Int32.ofInt 0), S.2).2).2).1 45 (Int32.ofInt 1), (va_up (va_up (va_up S.1 42 (Int32.ofInt 0), S.2).1 43 (Int32.ofInt 0), (va_up S.1 42 (Int32.ofInt 0), S.2).2).1 44 (Int32.ofInt 0), (va_up (va_up S.1 42 (Int32.ofInt 0), S.2).1 43 (Int32.ofInt 0), (va_up S.1 42 (Int32.ofInt 0), S.2).2).2).2).2 19) (Int32.ofInt 1).toNatClampNeg (Int32.ofInt 0))).2 18 (upd (((va_up (va_up (va_up (va_up S.1 42 (Int32.ofInt 0), S.2).1 43 (Int32.ofInt 0), (va_up S.1 42 (Int32.ofInt 0), S.2).2).1 44 (Int32.ofInt 0), (va_up (va_up S.1 42 (Int32.ofInt 0), S.2).1 43 (Int32.ofInt 0), (va_up S.1 42 (Int32.ofInt 0), S.2).2).2).1 45 (Int32.ofInt 1), (va_up (va_up (va_up S.1 42 (Int32.ofInt 0), S.2).1 43 (Int32.ofInt 0), (va_up S.1 42 (Int32.ofInt 0), S.2).2).1 44 (Int32.ofInt 0), (va_up (va_up S.1 42 (Int32.ofInt 0), S.2).1 43 (Int32.ofInt 0), (va_up S.1 42 (Int32.ofInt 0), S.2).2).2).2).1, va_up (va_up (va_up (va_up (va_up S.1 42 (Int32.ofInt 0), S.2).1 43 (Int32.ofInt 0), (va_up S.1 42 (Int32.ofInt 0), S.2).2).1 44 (Int32.ofInt 0), (va_up (va_up S.1 42 (Int32.ofInt 0), S.2).1 43 (Int32.ofInt 0), (va_up S.1 42 (Int32.ofInt 0), S.2).2).2).1 45 (Int32.ofInt 1), (va_up (va_up (va_up S.1 42 (Int32.ofInt 0), S.2).1 43 (Int32.ofInt 0), (va_up S.1 42 (Int32.ofInt 0), S.2).2).1 44 (Int32.ofInt 0), (va_up (va_up S.1 42 (Int32.ofInt 0), S.2).1 43 (Int32.ofInt 0), (va_up S.1 42 (Int32.ofInt 0), S.2).2).2).2).2 19 (upd ((va_up (va_up (va_up (va_up S.1 42 (Int32.ofInt 0), S.2).1 43 (Int32.ofInt 0), (va_up S.1 42 (Int32.ofInt 0), S.2).2).1 44 (Int32.ofInt 0), (va_up (va_up S.1 42 (Int32.ofInt 0), S.2).1 43 (Int32.ofInt 0), (va_up S.1 42 (Int32.ofInt 0), S.2).2).2).1 45 (Int32.ofInt 1), (va_up (va_up (va_up S.1 42 (Int32.ofInt 0), S.2).1 43 (Int32.ofInt 0), (va_up S.1 42 (Int32.ofInt 0), S.2).2).1 44 (Int32.ofInt 0), (va_up (va_up S.1 42 (Int32.ofInt 0), S.2).1 43 (Int32.ofInt 0), (va_up S.1 42 (Int32.ofInt 0), S.2).2).2).2).2 19) (Int32.ofInt 1).toNatClampNeg (Int32.ofInt 0))).2 18) (Int32.ofInt 1).toNatClampNeg (Int32.ofInt (-1))))) else none) else none) else none) else none) else none) else none
def fn_Md_bindings (N : Nat) (p1 : Int32) (p2 : Int32) (S : MS) : Option (Int32 × MS) := fn_Md_bindings_0 N p1 p2 S
theorem w_Md_bindings_36 {l : Launch} {G : ag_G} {d N : Nat} {h : ag_H} {a : Nat} (hb : md_ok h a) (hH : 2 ≤ d) : ∀ (n : Nat) (res : Int32 × MS) (x1 : Int32) (x2 : Int32) (x3 : Int32) (S : MS) , fn_Md_bindings_36 N n x1 x2 x3 S = some res → ag_ev gc_P l G m_Md_bindings (d + 1) (ag_ret gc_P G (fun v h' => v = none ∧ h' = md_up h a res.2)) 36 [(0, .ref a), (1, .int (x1)), (2, .int (x2)), (3, .int (x3))] [] (md_up h a S) := by
  intro n
  induction n with
  | zero =>
    intro res x1 x2 x3 S hyp
    cases hyp
  | succ n ih =>
    intro res x1 x2 x3 S hyp
    rw [fe_Md_bindings_36] at hyp
    refine ag_iload_n d_Md_bindings_36 rfl ?_
    refine ag_if_le d_Md_bindings_37 rfl (fun q => ?_) (fun q => ?_)
    · replace hyp := md_ifp q hyp
      cases hyp
      exact ag_vret d_Md_bindings_116 rfl ⟨rfl, rfl⟩
    · replace hyp := md_ifn q hyp
      refine ag_aload_n d_Md_bindings_40 rfl ?_
      refine md_get hb d_Md_bindings_41 fr_Md_72 rfl ?_
      refine ag_iload_n d_Md_bindings_44 rfl ?_
      refine ag_dup2 d_Md_bindings_45 rfl rfl ?_
      obtain ⟨qi, hyp⟩ := md_ifs hyp
      refine md_ald hb d_Md_bindings_46 (by decide) (by decide) rfl qi ?_
      refine ag_iconst d_Md_bindings_47 ?_
      refine ag_iadd d_Md_bindings_48 ?_
      obtain ⟨qi, hyp⟩ := md_ifs hyp
      refine md_ast hb d_Md_bindings_49 (by decide) (by decide) rfl qi ?_
      refine ag_aload_n d_Md_bindings_50 rfl ?_
      refine md_get hb d_Md_bindings_51 fr_Md_72 rfl ?_
      refine ag_iload_n d_Md_bindings_54 rfl ?_
      obtain ⟨qi, hyp⟩ := md_ifs hyp
      refine md_ald hb d_Md_bindings_55 (by decide) (by decide) rfl qi ?_
      refine ag_aload_n d_Md_bindings_56 rfl ?_
      refine md_get hb d_Md_bindings_57 fr_Md_233 rfl ?_
      refine ag_icmp_lt d_Md_bindings_60 rfl (fun q => ?_) (fun q => ?_)
      · replace hyp := md_ifp q hyp
        refine ag_aload_n d_Md_bindings_69 rfl ?_
        refine ag_iload_n d_Md_bindings_70 rfl ?_
        refine ag_iload_n d_Md_bindings_71 rfl ?_
        refine ag_aload_n d_Md_bindings_72 rfl ?_
        refine md_get hb d_Md_bindings_73 fr_Md_72 rfl ?_
        refine ag_iload_n d_Md_bindings_76 rfl ?_
        obtain ⟨qi, hyp⟩ := md_ifs hyp
        refine md_ald hb d_Md_bindings_77 (by decide) (by decide) rfl qi ?_
        obtain ⟨r1, e1, hyp⟩ := md_bd hyp
        refine ag_callv (as := [.int (x1), .int (x3), .int ((S.1, va_up S.2 18 (upd (S.2 18) (x3).toNatClampNeg ((S.2 18 (x3).toNatClampNeg) + (Int32.ofInt 1)))).2 18 (x3).toNatClampNeg)]) d_Md_bindings_78 ml_Md_236 gw_1250 rfl sl_Md_fit (md_at0 hb _) (Nat.le_of_ble_eq_true rfl) (w_Md_fit hb (d := d) (by omega) e1) (fun v1 h1 q1 => ?_)
        obtain ⟨rfl, rfl⟩ := q1
        refine ag_if_eq d_Md_bindings_81 rfl (fun q => ?_) (fun q => ?_)
        · replace hyp := md_ifp q hyp
          exact ag_dr (ag_d1 rfl (ag_d1 rfl (ag_d1 rfl (ag_d1 rfl ag_d0)))) (ih _ _ _ _ _ hyp)
        · replace hyp := md_ifn q hyp
          refine ag_iload_n d_Md_bindings_84 rfl ?_
          refine ag_aload_n d_Md_bindings_85 rfl ?_
          refine md_get hb d_Md_bindings_86 fr_Md_54 rfl ?_
          refine ag_iload_n d_Md_bindings_89 rfl ?_
          obtain ⟨qi, hyp⟩ := md_ifs hyp
          refine md_ald hb d_Md_bindings_90 (by decide) (by decide) rfl qi ?_
          refine ag_icmp_ge d_Md_bindings_91 rfl (fun q => ?_) (fun q => ?_)
          · replace hyp := md_ifp q hyp
            refine ag_aload_n d_Md_bindings_107 rfl ?_
            refine ag_iload_n d_Md_bindings_108 rfl ?_
            refine ag_iload_n d_Md_bindings_109 rfl ?_
            obtain ⟨r2, e2, hyp⟩ := md_bd hyp
            refine ag_callv (as := [.int (x1), .int (x2)]) d_Md_bindings_110 ml_Md_239 gw_1258 rfl sl_Md_complete (md_at0 hb _) (Nat.le_of_ble_eq_true rfl) (w_Md_complete hb (d := d) (by omega) e2) (fun v2 h2 q2 => ?_)
            obtain ⟨rfl, rfl⟩ := q2
            refine ag_goto d_Md_bindings_113 rfl ?_
            exact ag_dr (ag_d1 rfl (ag_d1 rfl (ag_d1 rfl (ag_d1 rfl ag_d0)))) (ih _ _ _ _ _ hyp)
          · replace hyp := md_ifn q hyp
            refine ag_iinc d_Md_bindings_94 rfl (by decide) ?_
            refine ag_aload_n d_Md_bindings_97 rfl ?_
            refine md_get hb d_Md_bindings_98 fr_Md_72 rfl ?_
            refine ag_iload_n d_Md_bindings_101 rfl ?_
            refine ag_iconst d_Md_bindings_102 ?_
            obtain ⟨qi, hyp⟩ := md_ifs hyp
            refine md_ast hb d_Md_bindings_103 (by decide) (by decide) rfl qi ?_
            refine ag_goto d_Md_bindings_104 rfl ?_
            exact ag_dr (ag_d1 rfl (ag_d1 rfl (ag_d1 rfl (ag_d1 rfl ag_d0)))) (ih _ _ _ _ _ hyp)
      · replace hyp := md_ifn q hyp
        refine ag_iinc d_Md_bindings_63 rfl (by decide) ?_
        refine ag_goto d_Md_bindings_66 rfl ?_
        exact ag_dr (ag_d1 rfl (ag_d1 rfl (ag_d1 rfl (ag_d1 rfl ag_d0)))) (ih _ _ _ _ _ hyp)
theorem w_Md_bindings_0 {l : Launch} {G : ag_G} {d N : Nat} {h : ag_H} {a : Nat} (hb : md_ok h a) (hH : 2 ≤ d) {x1 : Int32} {x2 : Int32} {S : MS} {res : Int32 × MS} (hyp : fn_Md_bindings_0 N x1 x2 S = some res) : ag_ev gc_P l G m_Md_bindings (d + 1) (ag_ret gc_P G (fun v h' => v = none ∧ h' = md_up h a res.2)) 0 [(0, .ref a), (1, .int (x1)), (2, .int (x2))] [] (md_up h a S) := by
  unfold fn_Md_bindings_0 at hyp
  refine ag_aload_n d_Md_bindings_0 rfl ?_
  refine ag_iconst d_Md_bindings_1 ?_
  obtain ⟨qz, hyp⟩ := md_ifs hyp
  refine md_putz hb d_Md_bindings_2 fl_Md_221 rfl (by decide) qz ?_
  refine ag_aload_n d_Md_bindings_5 rfl ?_
  refine ag_iconst d_Md_bindings_6 ?_
  obtain ⟨qz, hyp⟩ := md_ifs hyp
  refine md_putz hb d_Md_bindings_7 fl_Md_224 rfl (by decide) qz ?_
  refine ag_aload_n d_Md_bindings_10 rfl ?_
  refine ag_iconst d_Md_bindings_11 ?_
  obtain ⟨qz, hyp⟩ := md_ifs hyp
  refine md_putz hb d_Md_bindings_12 fl_Md_227 rfl (by decide) qz ?_
  refine ag_aload_n d_Md_bindings_15 rfl ?_
  refine ag_iconst d_Md_bindings_16 ?_
  obtain ⟨qz, hyp⟩ := md_ifs hyp
  refine md_putz hb d_Md_bindings_17 fl_Md_230 rfl (by decide) qz ?_
  refine ag_aload_n d_Md_bindings_20 rfl ?_
  refine md_get hb d_Md_bindings_21 fr_Md_75 rfl ?_
  refine ag_iconst d_Md_bindings_24 ?_
  refine ag_iconst d_Md_bindings_25 ?_
  obtain ⟨qi, hyp⟩ := md_ifs hyp
  refine md_ast hb d_Md_bindings_26 (by decide) (by decide) rfl qi ?_
  refine ag_iconst d_Md_bindings_27 ?_
  refine ag_istore_n d_Md_bindings_28 (by decide) ?_
  refine ag_aload_n d_Md_bindings_29 rfl ?_
  refine md_get hb d_Md_bindings_30 fr_Md_72 rfl ?_
  refine ag_iconst d_Md_bindings_33 ?_
  refine ag_iconst d_Md_bindings_34 ?_
  obtain ⟨qi, hyp⟩ := md_ifs hyp
  refine md_ast hb d_Md_bindings_35 (by decide) (by decide) rfl qi ?_
  exact ag_dr (ag_d1 rfl (ag_d1 rfl (ag_d1 rfl (ag_d1 rfl ag_d0)))) (w_Md_bindings_36 hb hH N _ _ _ _ _ hyp)
theorem w_Md_bindings {l : Launch} {G : ag_G} {d N : Nat} {h : ag_H} {a : Nat} (hb : md_ok h a) (hH : 3 ≤ d) {p1 : Int32} {p2 : Int32} {S : MS} {res : Int32 × MS} (hyp : fn_Md_bindings N p1 p2 S = some res) : ag_Met gc_P l G m_Md_bindings d [.ref a, .int (p1), .int (p2)] (md_up h a S) (fun v h' => v = none ∧ h' = md_up h a res.2) := by
  obtain ⟨d, rfl, hG⟩ := md_dd hH
  exact ag_met (by decide) rfl (Nat.le_of_ble_eq_true rfl) (ag_dr (ag_d1 rfl (ag_d1 rfl (ag_d1 rfl ag_d0))) (w_Md_bindings_0 hb hG hyp))
