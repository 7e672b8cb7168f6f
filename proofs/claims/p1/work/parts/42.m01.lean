/-! Md_timesLike, Md_flush, Md_lastStar, Md_sum, Md_comparison, Md_body -/
def fn_Md_timesLike_17 (N : Nat) (s0 : Int32) : Option Int32 := if md_01 (s0) = true then (some (s0)) else none
def fn_Md_timesLike_12 (N : Nat) : Option Int32 := fn_Md_timesLike_17 N (Int32.ofInt 1)
def fn_Md_timesLike_0 (N : Nat) (x0 : Int32) : Option Int32 := if (x0) = ((Int8.ofInt (42)).toInt32) then (fn_Md_timesLike_12 N ) else (if (x0) = ((Int8.ofInt (47)).toInt32) then (fn_Md_timesLike_12 N ) else (fn_Md_timesLike_17 N (Int32.ofInt 0)))
def fn_Md_timesLike (N : Nat) (p0 : Int32) : Option Int32 := fn_Md_timesLike_0 N p0
theorem w_Md_timesLike_17 {l : Launch} {G : ag_G} {d N : Nat} {h : ag_H} {s0 : Int32} {res : Int32} (hyp : fn_Md_timesLike_17 N s0 = some res) : ag_ev gc_P l G m_Md_timesLike (d) (ag_ret gc_P G (fun v h' => v = some (.int res) ∧ h' = h)) 17 [] [.int (s0)] (h) := by
  unfold fn_Md_timesLike_17 at hyp
  obtain ⟨qz, hyp⟩ := md_ifs hyp
  cases hyp
  exact ag_iret d_Md_timesLike_17 rfl (md_01n qz) ⟨rfl, rfl⟩
theorem w_Md_timesLike_12 {l : Launch} {G : ag_G} {d N : Nat} {h : ag_H} {res : Int32} (hyp : fn_Md_timesLike_12 N  = some res) : ag_ev gc_P l G m_Md_timesLike (d) (ag_ret gc_P G (fun v h' => v = some (.int res) ∧ h' = h)) 12 [] [] (h) := by
  unfold fn_Md_timesLike_12 at hyp
  refine ag_iconst d_Md_timesLike_12 ?_
  refine ag_goto d_Md_timesLike_13 rfl ?_
  exact ag_dr ag_d0 (w_Md_timesLike_17 hyp)
theorem w_Md_timesLike_0 {l : Launch} {G : ag_G} {d N : Nat} {h : ag_H} {x0 : Int32} {res : Int32} (hyp : fn_Md_timesLike_0 N x0 = some res) : ag_ev gc_P l G m_Md_timesLike (d) (ag_ret gc_P G (fun v h' => v = some (.int res) ∧ h' = h)) 0 [(0, .int (x0))] [] (h) := by
  unfold fn_Md_timesLike_0 at hyp
  refine ag_iload_n d_Md_timesLike_0 rfl ?_
  refine ag_bipush d_Md_timesLike_1 ?_
  refine ag_icmp_eq d_Md_timesLike_3 rfl (fun q => ?_) (fun q => ?_)
  · replace hyp := md_ifp q hyp
    exact ag_dr ag_d0 (w_Md_timesLike_12 hyp)
  · replace hyp := md_ifn q hyp
    refine ag_iload_n d_Md_timesLike_6 rfl ?_
    refine ag_bipush d_Md_timesLike_7 ?_
    refine ag_icmp_ne d_Md_timesLike_9 rfl (fun q => ?_) (fun q => ?_)
    · replace hyp := md_ifn q hyp
      refine ag_iconst d_Md_timesLike_16 ?_
      exact ag_dr ag_d0 (w_Md_timesLike_17 hyp)
    · replace hyp := md_ifp q hyp
      exact ag_dr ag_d0 (w_Md_timesLike_12 hyp)
theorem w_Md_timesLike {l : Launch} {G : ag_G} {d N : Nat} {h : ag_H} (hH : 0 ≤ d) {p0 : Int32} {res : Int32} (hyp : fn_Md_timesLike N p0 = some res) : ag_Met gc_P l G m_Md_timesLike d [.int (p0)] (h) (fun v h' => v = some (.int res) ∧ h' = h) := by
  exact ag_met (by decide) rfl (Nat.le_of_ble_eq_true rfl) (ag_dr (ag_d1 rfl ag_d0) (w_Md_timesLike_0 hyp))
def fn_Md_flush_106 (N : Nat) (S : MS) : Option (Int32 × MS) := some (0, S)
def fn_Md_flush_100 (N : Nat) (k0 : Int32 → MS → Option (Int32 × MS)) (x1 : Int32) (s1 : Int32) (S : MS) : Option (Int32 × MS) := (fn_Md_emit N (s1) S).bind fun r1 => k0 (x1) r1.2
def fn_Md_flush_44 (N : Nat) (k0 : Int32 → MS → Option (Int32 × MS)) (x1 : Int32) (S : MS) : Option (Int32 × MS) := if md_in ((va_up S.1 31 ((S.1 31) - (Int32.ofInt 1)), S.2).1 31) (md_len 16) = true then (if ((va_up S.1 31 ((S.1 31) - (Int32.ofInt 1)), S.2).2 16 ((va_up S.1 31 ((S.1 31) - (Int32.ofInt 1)), S.2).1 31).toNatClampNeg) = ((Int8.ofInt (43)).toInt32) then (fn_Md_flush_100 N k0 (x1) ((Int8.ofInt (-11)).toInt32) (va_up S.1 31 ((S.1 31) - (Int32.ofInt 1)), S.2)) else (if ((va_up S.1 31 ((S.1 31) - (Int32.ofInt 1)), S.2).2 16 ((va_up S.1 31 ((S.1 31) - (Int32.ofInt 1)), S.2).1 31).toNatClampNeg) = ((Int8.ofInt (45)).toInt32) then (fn_Md_flush_100 N k0 (x1) ((Int8.ofInt (-12)).toInt32) (va_up S.1 31 ((S.1 31) - (Int32.ofInt 1)), S.2)) else (if ((va_up S.1 31 ((S.1 31) - (Int32.ofInt 1)), S.2).2 16 ((va_up S.1 31 ((S.1 31) - (Int32.ofInt 1)), S.2).1 31).toNatClampNeg) = ((Int8.ofInt (42)).toInt32) then (fn_Md_flush_100 N k0 (x1) ((Int8.ofInt (-13)).toInt32) (va_up S.1 31 ((S.1 31) - (Int32.ofInt 1)), S.2)) else (fn_Md_flush_100 N k0 (x1) ((Int8.ofInt (-14)).toInt32) (va_up S.1 31 ((S.1 31) - (Int32.ofInt 1)), S.2))))) else none
def fn_Md_flush_0 (N : Nat) : Nat → Int32 → MS → Option (Int32 × MS)
  | 0, _, _ => none
  | n + 1, x1, S => if (S.1 31) ≤ (0) then (fn_Md_flush_106 N  S) else (if md_in ((S.1 31) - (Int32.ofInt 1)) (md_len 16) = true then (if (S.2 16 ((S.1 31) - (Int32.ofInt 1)).toNatClampNeg) = ((Int8.ofInt (40)).toInt32) then (fn_Md_flush_106 N  S) else (if (x1) = (0) then (fn_Md_flush_44 N (fn_Md_flush_0 N n) (x1) S) else (if md_in ((S.1 31) - (Int32.ofInt 1)) (md_len 16) = true then ((fn_Md_timesLike N (S.2 16 ((S.1 31) - (Int32.ofInt 1)).toNatClampNeg)).bind fun r1 => if (r1) = (0) then (fn_Md_flush_106 N  S) else (fn_Md_flush_44 N (fn_Md_flush_0 N n) (x1) S)) else none))) else none)
theorem fe_Md_flush_0 (N : Nat) (n : Nat) (x1 : Int32) (S : MS) : fn_Md_flush_0 N (n + 1) x1 S = (if (S.1 31) ≤ (0) then (fn_Md_flush_106 N  S) else (if md_in ((S.1 31) - (Int32.ofInt 1)) (md_len 16) = true then (if (S.2 16 ((S.1 31) - (Int32.ofInt 1)).toNatClampNeg) = ((Int8.ofInt (40)).toInt32) then (fn_Md_flush_106 N  S) else (if (x1) = (0) then (fn_Md_flush_44 N (fn_Md_flush_0 N n) (x1) S) else (if md_in ((S.1 31) - (Int32.ofInt 1)) (md_len 16) = true then ((fn_Md_timesLike N (S.2 16 ((S.1 31) - (Int32.ofInt 1)).toNatClampNeg)).bind fun r1 => if (r1) = (0) then (fn_Md_flush_106 N  S) else (fn_Md_flush_44 N (fn_Md_flush_0 N n) (x1) S)) else none))) else none)) := rfl
def fn_Md_flush (N : Nat) (p1 : Int32) (S : MS) : Option (Int32 × MS) := fn_Md_flush_0 N N p1 S
theorem w_Md_flush_106 {l : Launch} {G : ag_G} {d N : Nat} {h : ag_H} {a : Nat} (hb : md_ok h a) (hH : 0 ≤ d) {S : MS} {res : Int32 × MS} (hyp : fn_Md_flush_106 N S = some res) : ag_ev gc_P l G m_Md_flush (d + 1) (ag_ret gc_P G (fun v h' => v = none ∧ h' = md_up h a res.2)) 106 [(0, .ref a)] [] (md_up h a S) := by
  unfold fn_Md_flush_106 at hyp
  cases hyp
  exact ag_vret d_Md_flush_106 rfl ⟨rfl, rfl⟩
theorem w_Md_flush_100 {l : Launch} {G : ag_G} {d N : Nat} {h : ag_H} {a : Nat} (hb : md_ok h a) (hH : 0 ≤ d) {k0 : Int32 → MS → Option (Int32 × MS)} (hk0 : ∀ (res : Int32 × MS) (y1 : Int32) (T : MS), k0 y1 T = some res → ag_ev gc_P l G m_Md_flush (d + 1) (ag_ret gc_P G (fun v h' => v = none ∧ h' = md_up h a res.2)) 0 [(0, .ref a), (1, .int (y1))] [] (md_up h a T)) {x1 : Int32} {s1 : Int32} {S : MS} {res : Int32 × MS} (hyp : fn_Md_flush_100 N k0 x1 s1 S = some res) : ag_ev gc_P l G m_Md_flush (d + 1) (ag_ret gc_P G (fun v h' => v = none ∧ h' = md_up h a res.2)) 100 [(0, .ref a), (1, .int (x1))] [.int (s1), .ref a] (md_up h a S) := by
  unfold fn_Md_flush_100 at hyp
  obtain ⟨r1, e1, hyp⟩ := md_bd hyp
  refine ag_callv (as := [.int (s1)]) d_Md_flush_100 ml_Md_144 gw_1147 rfl sl_Md_emit (md_at0 hb _) (Nat.le_of_ble_eq_true rfl) (w_Md_emit hb (d := d) (by omega) e1) (fun v1 h1 q1 => ?_)
  obtain ⟨rfl, rfl⟩ := q1
  refine ag_goto d_Md_flush_103 rfl ?_
  exact ag_dr (ag_d1 rfl (ag_d1 rfl ag_d0)) (hk0 _ _ _ hyp)
theorem w_Md_flush_44 {l : Launch} {G : ag_G} {d N : Nat} {h : ag_H} {a : Nat} (hb : md_ok h a) (hH : 0 ≤ d) {k0 : Int32 → MS → Option (Int32 × MS)} (hk0 : ∀ (res : Int32 × MS) (y1 : Int32) (T : MS), k0 y1 T = some res → ag_ev gc_P l G m_Md_flush (d + 1) (ag_ret gc_P G (fun v h' => v = none ∧ h' = md_up h a res.2)) 0 [(0, .ref a), (1, .int (y1))] [] (md_up h a T)) {x1 : Int32} {S : MS} {res : Int32 × MS} (hyp : fn_Md_flush_44 N k0 x1 S = some res) : ag_ev gc_P l G m_Md_flush (d + 1) (ag_ret gc_P G (fun v h' => v = none ∧ h' = md_up h a res.2)) 44 [(0, .ref a), (1, .int (x1))] [] (md_up h a S) := by
  unfold fn_Md_flush_44 at hyp
  refine ag_aload_n d_Md_flush_44 rfl ?_
  refine ag_dup d_Md_flush_45 rfl ?_
  refine md_get hb d_Md_flush_46 fr_Md_147 rfl ?_
  refine ag_iconst d_Md_flush_49 ?_
  refine ag_isub d_Md_flush_50 ?_
  refine md_puti hb d_Md_flush_51 fl_Md_147 rfl (by decide) rfl rfl ?_
  refine ag_aload_n d_Md_flush_54 rfl ?_
  refine md_get hb d_Md_flush_55 fr_Md_66 rfl ?_
  refine ag_aload_n d_Md_flush_58 rfl ?_
  refine md_get hb d_Md_flush_59 fr_Md_147 rfl ?_
  obtain ⟨qi, hyp⟩ := md_ifs hyp
  refine md_ald hb d_Md_flush_62 (by decide) (by decide) rfl qi ?_
  refine ag_istore_n d_Md_flush_63 (by decide) ?_
  refine ag_aload_n d_Md_flush_64 rfl ?_
  refine ag_iload_n d_Md_flush_65 rfl ?_
  refine ag_bipush d_Md_flush_66 ?_
  refine ag_icmp_ne d_Md_flush_68 rfl (fun q => ?_) (fun q => ?_)
  · replace hyp := md_ifn q hyp
    refine ag_iload_n d_Md_flush_76 rfl ?_
    refine ag_bipush d_Md_flush_77 ?_
    refine ag_icmp_ne d_Md_flush_79 rfl (fun q => ?_) (fun q => ?_)
    · replace hyp := md_ifn q hyp
      refine ag_iload_n d_Md_flush_87 rfl ?_
      refine ag_bipush d_Md_flush_88 ?_
      refine ag_icmp_ne d_Md_flush_90 rfl (fun q => ?_) (fun q => ?_)
      · replace hyp := md_ifn q hyp
        refine ag_bipush d_Md_flush_98 ?_
        exact ag_dr (ag_d1 rfl (ag_d1 rfl ag_d0)) (w_Md_flush_100 hb hH hk0 hyp)
      · replace hyp := md_ifp q hyp
        refine ag_bipush d_Md_flush_93 ?_
        refine ag_goto d_Md_flush_95 rfl ?_
        exact ag_dr (ag_d1 rfl (ag_d1 rfl ag_d0)) (w_Md_flush_100 hb hH hk0 hyp)
    · replace hyp := md_ifp q hyp
      refine ag_bipush d_Md_flush_82 ?_
      refine ag_goto d_Md_flush_84 rfl ?_
      exact ag_dr (ag_d1 rfl (ag_d1 rfl ag_d0)) (w_Md_flush_100 hb hH hk0 hyp)
  · replace hyp := md_ifp q hyp
    refine ag_bipush d_Md_flush_71 ?_
    refine ag_goto d_Md_flush_73 rfl ?_
    exact ag_dr (ag_d1 rfl (ag_d1 rfl ag_d0)) (w_Md_flush_100 hb hH hk0 hyp)
theorem w_Md_flush_0 {l : Launch} {G : ag_G} {d N : Nat} {h : ag_H} {a : Nat} (hb : md_ok h a) (hH : 0 ≤ d) : ∀ (n : Nat) (res : Int32 × MS) (x1 : Int32) (S : MS) , fn_Md_flush_0 N n x1 S = some res → ag_ev gc_P l G m_Md_flush (d + 1) (ag_ret gc_P G (fun v h' => v = none ∧ h' = md_up h a res.2)) 0 [(0, .ref a), (1, .int (x1))] [] (md_up h a S) := by
  intro n
  induction n with
  | zero =>
    intro res x1 S hyp
    cases hyp
  | succ n ih =>
    intro res x1 S hyp
    rw [fe_Md_flush_0] at hyp
    refine ag_aload_n d_Md_flush_0 rfl ?_
    refine md_get hb d_Md_flush_1 fr_Md_147 rfl ?_
    refine ag_if_le d_Md_flush_4 rfl (fun q => ?_) (fun q => ?_)
    · replace hyp := md_ifp q hyp
      exact ag_dr (ag_d1 rfl ag_d0) (w_Md_flush_106 hb hH hyp)
    · replace hyp := md_ifn q hyp
      refine ag_aload_n d_Md_flush_7 rfl ?_
      refine md_get hb d_Md_flush_8 fr_Md_66 rfl ?_
      refine ag_aload_n d_Md_flush_11 rfl ?_
      refine md_get hb d_Md_flush_12 fr_Md_147 rfl ?_
      refine ag_iconst d_Md_flush_15 ?_
      refine ag_isub d_Md_flush_16 ?_
      obtain ⟨qi, hyp⟩ := md_ifs hyp
      refine md_ald hb d_Md_flush_17 (by decide) (by decide) rfl qi ?_
      refine ag_bipush d_Md_flush_18 ?_
      refine ag_icmp_eq d_Md_flush_20 rfl (fun q => ?_) (fun q => ?_)
      · replace hyp := md_ifp q hyp
        exact ag_dr (ag_d1 rfl ag_d0) (w_Md_flush_106 hb hH hyp)
      · replace hyp := md_ifn q hyp
        refine ag_iload_n d_Md_flush_23 rfl ?_
        refine ag_if_eq d_Md_flush_24 rfl (fun q => ?_) (fun q => ?_)
        · replace hyp := md_ifp q hyp
          exact ag_dr (ag_d1 rfl (ag_d1 rfl ag_d0)) (w_Md_flush_44 hb hH ih hyp)
        · replace hyp := md_ifn q hyp
          refine ag_aload_n d_Md_flush_27 rfl ?_
          refine md_get hb d_Md_flush_28 fr_Md_66 rfl ?_
          refine ag_aload_n d_Md_flush_31 rfl ?_
          refine md_get hb d_Md_flush_32 fr_Md_147 rfl ?_
          refine ag_iconst d_Md_flush_35 ?_
          refine ag_isub d_Md_flush_36 ?_
          obtain ⟨qi, hyp⟩ := md_ifs hyp
          refine md_ald hb d_Md_flush_37 (by decide) (by decide) rfl qi ?_
          obtain ⟨r1, e1, hyp⟩ := md_bd hyp
          refine ag_calls (as := [.int (S.2 16 ((S.1 31) - (Int32.ofInt 1)).toNatClampNeg)]) d_Md_flush_38 ml_Md_150 gw_1154 (Nat.le_of_ble_eq_true rfl) (w_Md_timesLike (d := d) (by omega) e1) (fun v1 h1 q1 => ?_)
          obtain ⟨rfl, rfl⟩ := q1
          refine ag_if_eq d_Md_flush_41 rfl (fun q => ?_) (fun q => ?_)
          · replace hyp := md_ifp q hyp
            exact ag_dr (ag_d1 rfl ag_d0) (w_Md_flush_106 hb hH hyp)
          · replace hyp := md_ifn q hyp
            exact ag_dr (ag_d1 rfl (ag_d1 rfl ag_d0)) (w_Md_flush_44 hb hH ih hyp)
theorem w_Md_flush {l : Launch} {G : ag_G} {d N : Nat} {h : ag_H} {a : Nat} (hb : md_ok h a) (hH : 1 ≤ d) {p1 : Int32} {S : MS} {res : Int32 × MS} (hyp : fn_Md_flush N p1 S = some res) : ag_Met gc_P l G m_Md_flush d [.ref a, .int (p1)] (md_up h a S) (fun v h' => v = none ∧ h' = md_up h a res.2) := by
  obtain ⟨d, rfl, hG⟩ := md_dd hH
  exact ag_met (by decide) rfl (Nat.le_of_ble_eq_true rfl) (ag_dr (ag_d1 rfl (ag_d1 rfl ag_d0)) (w_Md_flush_0 hb hG N _ _ _ hyp))
def fn_Md_lastStar_36 (N : Nat) (k9 : Int32 → Int32 → MS → Option (Int32 × MS)) (x2 : Int32) (s0 : Int32) (S : MS) : Option (Int32 × MS) := k9 (s0) ((x2) + Int32.ofInt (1)) S
def fn_Md_lastStar_35 (N : Nat) (k9 : Int32 → Int32 → MS → Option (Int32 × MS)) (x2 : Int32) (S : MS) : Option (Int32 × MS) := fn_Md_lastStar_36 N k9 (x2) (Int32.ofInt 0) S
def fn_Md_lastStar_9 (N : Nat) : Nat → Int32 → Int32 → MS → Option (Int32 × MS)
  | 0, _, _, _ => none
  | n + 1, x1, x2, S => if (S.1 18) ≤ (x2) then (if md_01 (x1) = true then (some ((x1), S)) else none) else (if (x1) = (0) then (fn_Md_lastStar_35 N (fn_Md_lastStar_9 N n) (x2) S) else ((fn_Md_peek N (x2) S).bind fun r1 => if (r1.1) = ((Int8.ofInt (32)).toInt32) then (fn_Md_lastStar_36 N (fn_Md_lastStar_9 N n) (x2) (Int32.ofInt 1) r1.2) else (fn_Md_lastStar_35 N (fn_Md_lastStar_9 N n) (x2) r1.2)))
theorem fe_Md_lastStar_9 (N : Nat) (n : Nat) (x1 : Int32) (x2 : Int32) (S : MS) : fn_Md_lastStar_9 N (n + 1) x1 x2 S = (if (S.1 18) ≤ (x2) then (if md_01 (x1) = true then (some ((x1), S)) else none) else (if (x1) = (0) then (fn_Md_lastStar_35 N (fn_Md_lastStar_9 N n) (x2) S) else ((fn_Md_peek N (x2) S).bind fun r1 => if (r1.1) = ((Int8.ofInt (32)).toInt32) then (fn_Md_lastStar_36 N (fn_Md_lastStar_9 N n) (x2) (Int32.ofInt 1) r1.2) else (fn_Md_lastStar_35 N (fn_Md_lastStar_9 N n) (x2) r1.2)))) := rfl
def fn_Md_lastStar_0 (N : Nat) (S : MS) : Option (Int32 × MS) := fn_Md_lastStar_9 N N (Int32.ofInt 1) ((S.1 16) + (Int32.ofInt 1)) S
def fn_Md_lastStar (N : Nat) (S : MS) : Option (Int32 × MS) := fn_Md_lastStar_0 N S
theorem w_Md_lastStar_36 {l : Launch} {G : ag_G} {d N : Nat} {h : ag_H} {a : Nat} (hb : md_ok h a) (hH : 0 ≤ d) {k9 : Int32 → Int32 → MS → Option (Int32 × MS)} (hk9 : ∀ (res : Int32 × MS) (y1 : Int32) (y2 : Int32) (T : MS), k9 y1 y2 T = some res → ag_ev gc_P l G m_Md_lastStar (d + 1) (ag_ret gc_P G (fun v h' => v = some (.int res.1) ∧ h' = md_up h a res.2)) 9 [(0, .ref a), (1, .int (y1)), (2, .int (y2))] [] (md_up h a T)) {x2 : Int32} {s0 : Int32} {S : MS} {res : Int32 × MS} (hyp : fn_Md_lastStar_36 N k9 x2 s0 S = some res) : ag_ev gc_P l G m_Md_lastStar (d + 1) (ag_ret gc_P G (fun v h' => v = some (.int res.1) ∧ h' = md_up h a res.2)) 36 [(0, .ref a), (2, .int (x2))] [.int (s0)] (md_up h a S) := by
  unfold fn_Md_lastStar_36 at hyp
  refine ag_istore_n d_Md_lastStar_36 (by decide) ?_
  refine ag_iinc d_Md_lastStar_37 rfl (by decide) ?_
  refine ag_goto d_Md_lastStar_40 rfl ?_
  exact ag_dr (ag_d1 rfl (ag_d1 rfl (ag_d1 rfl ag_d0))) (hk9 _ _ _ _ hyp)
theorem w_Md_lastStar_35 {l : Launch} {G : ag_G} {d N : Nat} {h : ag_H} {a : Nat} (hb : md_ok h a) (hH : 0 ≤ d) {k9 : Int32 → Int32 → MS → Option (Int32 × MS)} (hk9 : ∀ (res : Int32 × MS) (y1 : Int32) (y2 : Int32) (T : MS), k9 y1 y2 T = some res → ag_ev gc_P l G m_Md_lastStar (d + 1) (ag_ret gc_P G (fun v h' => v = some (.int res.1) ∧ h' = md_up h a res.2)) 9 [(0, .ref a), (1, .int (y1)), (2, .int (y2))] [] (md_up h a T)) {x2 : Int32} {S : MS} {res : Int32 × MS} (hyp : fn_Md_lastStar_35 N k9 x2 S = some res) : ag_ev gc_P l G m_Md_lastStar (d + 1) (ag_ret gc_P G (fun v h' => v = some (.int res.1) ∧ h' = md_up h a res.2)) 35 [(0, .ref a), (2, .int (x2))] [] (md_up h a S) := by
  unfold fn_Md_lastStar_35 at hyp
  refine ag_iconst d_Md_lastStar_35 ?_
  exact ag_dr (ag_d1 rfl (ag_d1 rfl ag_d0)) (w_Md_lastStar_36 hb hH hk9 hyp)
theorem w_Md_lastStar_9 {l : Launch} {G : ag_G} {d N : Nat} {h : ag_H} {a : Nat} (hb : md_ok h a) (hH : 0 ≤ d) : ∀ (n : Nat) (res : Int32 × MS) (x1 : Int32) (x2 : Int32) (S : MS) , fn_Md_lastStar_9 N n x1 x2 S = some res → ag_ev gc_P l G m_Md_lastStar (d + 1) (ag_ret gc_P G (fun v h' => v = some (.int res.1) ∧ h' = md_up h a res.2)) 9 [(0, .ref a), (1, .int (x1)), (2, .int (x2))] [] (md_up h a S) := by
  intro n
  induction n with
  | zero =>
    intro res x1 x2 S hyp
    cases hyp
  | succ n ih =>
    intro res x1 x2 S hyp
    rw [fe_Md_lastStar_9] at hyp
    refine ag_iload_n d_Md_lastStar_9 rfl ?_
    refine ag_aload_n d_Md_lastStar_10 rfl ?_
    refine md_get hb d_Md_lastStar_11 fr_Md_90 rfl ?_
    refine ag_icmp_ge d_Md_lastStar_14 rfl (fun q => ?_) (fun q => ?_)
    · replace hyp := md_ifp q hyp
      refine ag_iload_n d_Md_lastStar_43 rfl ?_
      obtain ⟨qz, hyp⟩ := md_ifs hyp
      cases hyp
      exact ag_iret d_Md_lastStar_44 rfl (md_01n qz) ⟨rfl, rfl⟩
    · replace hyp := md_ifn q hyp
      refine ag_iload_n d_Md_lastStar_17 rfl ?_
      refine ag_if_eq d_Md_lastStar_18 rfl (fun q => ?_) (fun q => ?_)
      · replace hyp := md_ifp q hyp
        exact ag_dr (ag_d1 rfl (ag_d1 rfl ag_d0)) (w_Md_lastStar_35 hb hH ih hyp)
      · replace hyp := md_ifn q hyp
        refine ag_aload_n d_Md_lastStar_21 rfl ?_
        refine ag_iload_n d_Md_lastStar_22 rfl ?_
        obtain ⟨r1, e1, hyp⟩ := md_bd hyp
        refine ag_callv (as := [.int (x2)]) d_Md_lastStar_23 ml_Md_100 gw_1124 rfl sl_Md_peek (md_at0 hb _) (Nat.le_of_ble_eq_true rfl) (w_Md_peek hb (d := d) (by omega) e1) (fun v1 h1 q1 => ?_)
        obtain ⟨rfl, rfl⟩ := q1
        refine ag_bipush d_Md_lastStar_26 ?_
        refine ag_icmp_ne d_Md_lastStar_28 rfl (fun q => ?_) (fun q => ?_)
        · replace hyp := md_ifn q hyp
          exact ag_dr (ag_d1 rfl (ag_d1 rfl ag_d0)) (w_Md_lastStar_35 hb hH ih hyp)
        · replace hyp := md_ifp q hyp
          refine ag_iconst d_Md_lastStar_31 ?_
          refine ag_goto d_Md_lastStar_32 rfl ?_
          exact ag_dr (ag_d1 rfl (ag_d1 rfl ag_d0)) (w_Md_lastStar_36 hb hH ih hyp)
theorem w_Md_lastStar_0 {l : Launch} {G : ag_G} {d N : Nat} {h : ag_H} {a : Nat} (hb : md_ok h a) (hH : 0 ≤ d) {S : MS} {res : Int32 × MS} (hyp : fn_Md_lastStar_0 N S = some res) : ag_ev gc_P l G m_Md_lastStar (d + 1) (ag_ret gc_P G (fun v h' => v = some (.int res.1) ∧ h' = md_up h a res.2)) 0 [(0, .ref a)] [] (md_up h a S) := by
  unfold fn_Md_lastStar_0 at hyp
  refine ag_iconst d_Md_lastStar_0 ?_
  refine ag_istore_n d_Md_lastStar_1 (by decide) ?_
  refine ag_aload_n d_Md_lastStar_2 rfl ?_
  refine md_get hb d_Md_lastStar_3 fr_Md_87 rfl ?_
  refine ag_iconst d_Md_lastStar_6 ?_
  refine ag_iadd d_Md_lastStar_7 ?_
  refine ag_istore_n d_Md_lastStar_8 (by decide) ?_
  exact ag_dr (ag_d1 rfl (ag_d1 rfl (ag_d1 rfl ag_d0))) (w_Md_lastStar_9 hb hH N _ _ _ _ hyp)
theorem w_Md_lastStar {l : Launch} {G : ag_G} {d N : Nat} {h : ag_H} {a : Nat} (hb : md_ok h a) (hH : 1 ≤ d) {S : MS} {res : Int32 × MS} (hyp : fn_Md_lastStar N S = some res) : ag_Met gc_P l G m_Md_lastStar d [.ref a] (md_up h a S) (fun v h' => v = some (.int res.1) ∧ h' = md_up h a res.2) := by
  obtain ⟨d, rfl, hG⟩ := md_dd hH
  exact ag_met (by decide) rfl (Nat.le_of_ble_eq_true rfl) (ag_dr (ag_d1 rfl ag_d0) (w_Md_lastStar_0 hb hG hyp))
def fn_Md_sum_286 (N : Nat) (s1 : Int32) (S : MS) : Option (Int32 × MS) := if md_01 (s1) = true then ((fn_Md_flush N (Int32.ofInt 0) (va_up S.1 20 (s1), S.2)).bind fun r1 => some (0, r1.2)) else none
def fn_Md_sum_281 (N : Nat) (S : MS) : Option (Int32 × MS) := fn_Md_sum_286 N (Int32.ofInt 1) S
def fn_Md_sum_265 (N : Nat) (x1 : Int32) (x2 : Int32) (S : MS) : Option (Int32 × MS) := if (S.1 20) = (0) then (if (x2) = (0) then (if (x1) ≤ (0) then (fn_Md_sum_286 N (Int32.ofInt 0) S) else (fn_Md_sum_281 N  S)) else (fn_Md_sum_281 N  S)) else (fn_Md_sum_281 N  S)
def fn_Md_sum_262 (N : Nat) (k11 : Int32 → Int32 → Int32 → MS → Option (Int32 × MS)) (x1 : Int32) (x2 : Int32) (x3 : Int32) (S : MS) : Option (Int32 × MS) := k11 (x1) (x2) (x3) S
def fn_Md_sum_230 (N : Nat) (k11 : Int32 → Int32 → Int32 → MS → Option (Int32 × MS)) (x1 : Int32) (x3 : Int32) (x4 : Int32) (S : MS) : Option (Int32 × MS) := (fn_Md_timesLike N (x4)).bind fun r1 => (fn_Md_flush N (r1) S).bind fun r2 => (fn_Md_push N (x4) r2.2).bind fun r3 => fn_Md_sum_262 N k11 (x1) (Int32.ofInt 1) (x3) (va_up r3.2.1 16 ((r3.2.1 16) + (Int32.ofInt 1)), r3.2.2)
def fn_Md_sum_260 (N : Nat) (k11 : Int32 → Int32 → Int32 → MS → Option (Int32 × MS)) (x1 : Int32) (x2 : Int32) (S : MS) : Option (Int32 × MS) := fn_Md_sum_262 N k11 (x1) (x2) (Int32.ofInt 0) S
def fn_Md_sum_195 (N : Nat) (k11 : Int32 → Int32 → Int32 → MS → Option (Int32 × MS)) (x1 : Int32) (x2 : Int32) (x3 : Int32) (x4 : Int32) (S : MS) : Option (Int32 × MS) := if (x4) = ((Int8.ofInt (43)).toInt32) then (fn_Md_sum_230 N k11 (x1) (x3) (x4) S) else (if (x4) = ((Int8.ofInt (45)).toInt32) then (fn_Md_sum_230 N k11 (x1) (x3) (x4) S) else (if (x4) = ((Int8.ofInt (47)).toInt32) then (fn_Md_sum_230 N k11 (x1) (x3) (x4) S) else (if (x4) = ((Int8.ofInt (42)).toInt32) then ((fn_Md_lastStar N S).bind fun r1 => if (r1.1) = (0) then (fn_Md_sum_230 N k11 (x1) (x3) (x4) r1.2) else (fn_Md_sum_260 N k11 (x1) (x2) r1.2)) else (fn_Md_sum_260 N k11 (x1) (x2) S))))
def fn_Md_sum_142 (N : Nat) (k11 : Int32 → Int32 → Int32 → MS → Option (Int32 × MS)) (x1 : Int32) (x2 : Int32) (x3 : Int32) (S : MS) : Option (Int32 × MS) := (fn_Md_number N S).bind fun r1 => (fn_Md_emit N (r1.1) r1.2).bind fun r2 => fn_Md_sum_262 N k11 (x1) (x2) (x3) r2.2
def fn_Md_sum_66 (N : Nat) (k11 : Int32 → Int32 → Int32 → MS → Option (Int32 × MS)) (x1 : Int32) (x2 : Int32) (x3 : Int32) (x4 : Int32) (s1 : Int32) (S : MS) : Option (Int32 × MS) := if md_01 (s1) = true then ((fn_Md_push N (x4) (va_up S.1 20 (s1), S.2)).bind fun r1 => fn_Md_sum_262 N k11 (x1) (x2) (x3) (va_up r1.2.1 16 ((r1.2.1 16) + (Int32.ofInt 1)), r1.2.2)) else none
def fn_Md_sum_44 (N : Nat) (k11 : Int32 → Int32 → Int32 → MS → Option (Int32 × MS)) (x1 : Int32) (x3 : Int32) (x4 : Int32) (s0 : Int32) (S : MS) : Option (Int32 × MS) := if (x4) = ((Int8.ofInt (40)).toInt32) then (if ((x1) + Int32.ofInt (1)) ≤ (Int32.ofInt 4) then (fn_Md_sum_66 N k11 ((x1) + Int32.ofInt (1)) (s0) (x3) (x4) (Int32.ofInt 0) S) else (fn_Md_sum_66 N k11 ((x1) + Int32.ofInt (1)) (s0) (x3) (x4) (Int32.ofInt 1) S)) else (if (x4) < ((Int8.ofInt (65)).toInt32) then (fn_Md_sum_142 N k11 (x1) (s0) (x3) S) else (if ((Int8.ofInt (72)).toInt32) < (x4) then (fn_Md_sum_142 N k11 (x1) (s0) (x3) S) else ((fn_Md_emit N ((((Int8.ofInt (65)).toInt32) - (x4)) - (Int32.ofInt 1)) (va_up S.1 27 ((S.1 27) ||| ((Int32.ofInt 1) <<< (((x4) - ((Int8.ofInt (65)).toInt32)) &&& 31))), S.2)).bind fun r1 => fn_Md_sum_262 N k11 (x1) (s0) (x3) (va_up r1.2.1 16 ((r1.2.1 16) + (Int32.ofInt 1)), r1.2.2))))
def fn_Md_sum_11 (N : Nat) : Nat → Int32 → Int32 → Int32 → MS → Option (Int32 × MS)
  | 0, _, _, _, _ => none
  | n + 1, x1, x2, x3, S => if (x3) = (0) then (fn_Md_sum_265 N (x1) (x2) S) else (if (S.1 20) = (0) then ((fn_Md_here N S).bind fun r1 => if (x2) = (0) then (if (r1.1) = ((Int8.ofInt (41)).toInt32) then (if (x1) ≤ (0) then (fn_Md_sum_195 N (fn_Md_sum_11 N n) (x1) (x2) (x3) (r1.1) r1.2) else ((fn_Md_flush N (Int32.ofInt 0) r1.2).bind fun r2 => fn_Md_sum_262 N (fn_Md_sum_11 N n) ((x1) + Int32.ofInt (-1)) (x2) (x3) (va_up (va_up r2.2.1 31 ((r2.2.1 31) - (Int32.ofInt 1)), r2.2.2).1 16 (((va_up r2.2.1 31 ((r2.2.1 31) - (Int32.ofInt 1)), r2.2.2).1 16) + (Int32.ofInt 1)), (va_up r2.2.1 31 ((r2.2.1 31) - (Int32.ofInt 1)), r2.2.2).2))) else (fn_Md_sum_195 N (fn_Md_sum_11 N n) (x1) (x2) (x3) (r1.1) r1.2)) else (if (r1.1) = ((Int8.ofInt (40)).toInt32) then (fn_Md_sum_44 N (fn_Md_sum_11 N n) (x1) (x3) (r1.1) (Int32.ofInt 1) r1.2) else (fn_Md_sum_44 N (fn_Md_sum_11 N n) (x1) (x3) (r1.1) (Int32.ofInt 0) r1.2))) else (fn_Md_sum_265 N (x1) (x2) S))
theorem fe_Md_sum_11 (N : Nat) (n : Nat) (x1 : Int32) (x2 : Int32) (x3 : Int32) (S : MS) : fn_Md_sum_11 N (n + 1) x1 x2 x3 S = (if (x3) = (0) then (fn_Md_sum_265 N (x1) (x2) S) else (if (S.1 20) = (0) then ((fn_Md_here N S).bind fun r1 => if (x2) = (0) then (if (r1.1) = ((Int8.ofInt (41)).toInt32) then (if (x1) ≤ (0) then (fn_Md_sum_195 N (fn_Md_sum_11 N n) (x1) (x2) (x3) (r1.1) r1.2) else ((fn_Md_flush N (Int32.ofInt 0) r1.2).bind fun r2 => fn_Md_sum_262 N (fn_Md_sum_11 N n) ((x1) + Int32.ofInt (-1)) (x2) (x3) (va_up (va_up r2.2.1 31 ((r2.2.1 31) - (Int32.ofInt 1)), r2.2.2).1 16 (((va_up r2.2.1 31 ((r2.2.1 31) - (Int32.ofInt 1)), r2.2.2).1 16) + (Int32.ofInt 1)), (va_up r2.2.1 31 ((r2.2.1 31) - (Int32.ofInt 1)), r2.2.2).2))) else (fn_Md_sum_195 N (fn_Md_sum_11 N n) (x1) (x2) (x3) (r1.1) r1.2)) else (if (r1.1) = ((Int8.ofInt (40)).toInt32) then (fn_Md_sum_44 N (fn_Md_sum_11 N n) (x1) (x3) (r1.1) (Int32.ofInt 1) r1.2) else (fn_Md_sum_44 N (fn_Md_sum_11 N n) (x1) (x3) (r1.1) (Int32.ofInt 0) r1.2))) else (fn_Md_sum_265 N (x1) (x2) S))) := rfl
def fn_Md_sum_0 (N : Nat) (S : MS) : Option (Int32 × MS) := fn_Md_sum_11 N N (Int32.ofInt 0) (Int32.ofInt 1) (Int32.ofInt 1) (va_up S.1 31 (Int32.ofInt 0), S.2)
def fn_Md_sum (N : Nat) (S : MS) : Option (Int32 × MS) := fn_Md_sum_0 N S
theorem w_Md_sum_286 {l : Launch} {G : ag_G} {d N : Nat} {h : ag_H} {a : Nat} (hb : md_ok h a) (hH : 1 ≤ d) {s1 : Int32} {S : MS} {res : Int32 × MS} (hyp : fn_Md_sum_286 N s1 S = some res) : ag_ev gc_P l G m_Md_sum (d + 1) (ag_ret gc_P G (fun v h' => v = none ∧ h' = md_up h a res.2)) 286 [(0, .ref a)] [.int (s1), .ref a] (md_up h a S) := by
  unfold fn_Md_sum_286 at hyp
  obtain ⟨qz, hyp⟩ := md_ifs hyp
  refine md_putz hb d_Md_sum_286 fl_Md_108 rfl (by decide) qz ?_
  refine ag_aload_n d_Md_sum_289 rfl ?_
  refine ag_iconst d_Md_sum_290 ?_
  obtain ⟨r1, e1, hyp⟩ := md_bd hyp
  refine ag_callv (as := [.int (Int32.ofInt 0)]) d_Md_sum_291 ml_Md_156 gw_1151 rfl sl_Md_flush (md_at0 hb _) (Nat.le_of_ble_eq_true rfl) (w_Md_flush hb (d := d) (by omega) e1) (fun v1 h1 q1 => ?_)
  obtain ⟨rfl, rfl⟩ := q1
  cases hyp
  exact ag_vret d_Md_sum_294 rfl ⟨rfl, rfl⟩
theorem w_Md_sum_281 {l : Launch} {G : ag_G} {d N : Nat} {h : ag_H} {a : Nat} (hb : md_ok h a) (hH : 1 ≤ d) {S : MS} {res : Int32 × MS} (hyp : fn_Md_sum_281 N S = some res) : ag_ev gc_P l G m_Md_sum (d + 1) (ag_ret gc_P G (fun v h' => v = none ∧ h' = md_up h a res.2)) 281 [(0, .ref a)] [.ref a] (md_up h a S) := by
  unfold fn_Md_sum_281 at hyp
  refine ag_iconst d_Md_sum_281 ?_
  refine ag_goto d_Md_sum_282 rfl ?_
  exact ag_dr (ag_d1 rfl ag_d0) (w_Md_sum_286 hb hH hyp)
theorem w_Md_sum_265 {l : Launch} {G : ag_G} {d N : Nat} {h : ag_H} {a : Nat} (hb : md_ok h a) (hH : 1 ≤ d) {x1 : Int32} {x2 : Int32} {S : MS} {res : Int32 × MS} (hyp : fn_Md_sum_265 N x1 x2 S = some res) : ag_ev gc_P l G m_Md_sum (d + 1) (ag_ret gc_P G (fun v h' => v = none ∧ h' = md_up h a res.2)) 265 [(0, .ref a), (1, .int (x1)), (2, .int (x2))] [] (md_up h a S) := by
  unfold fn_Md_sum_265 at hyp
  refine ag_aload_n d_Md_sum_265 rfl ?_
  refine ag_aload_n d_Md_sum_266 rfl ?_
  refine md_get hb d_Md_sum_267 fr_Md_108 rfl ?_
  refine ag_if_ne d_Md_sum_270 rfl (fun q => ?_) (fun q => ?_)
  · replace hyp := md_ifn q hyp
    exact ag_dr (ag_d1 rfl ag_d0) (w_Md_sum_281 hb hH hyp)
  · replace hyp := md_ifp q hyp
    refine ag_iload_n d_Md_sum_273 rfl ?_
    refine ag_if_ne d_Md_sum_274 rfl (fun q => ?_) (fun q => ?_)
    · replace hyp := md_ifn q hyp
      exact ag_dr (ag_d1 rfl ag_d0) (w_Md_sum_281 hb hH hyp)
    · replace hyp := md_ifp q hyp
      refine ag_iload_n d_Md_sum_277 rfl ?_
      refine ag_if_le d_Md_sum_278 rfl (fun q => ?_) (fun q => ?_)
      · replace hyp := md_ifp q hyp
        refine ag_iconst d_Md_sum_285 ?_
        exact ag_dr (ag_d1 rfl ag_d0) (w_Md_sum_286 hb hH hyp)
      · replace hyp := md_ifn q hyp
        exact ag_dr (ag_d1 rfl ag_d0) (w_Md_sum_281 hb hH hyp)
theorem w_Md_sum_262 {l : Launch} {G : ag_G} {d N : Nat} {h : ag_H} {a : Nat} (hb : md_ok h a) (hH : 1 ≤ d) {k11 : Int32 → Int32 → Int32 → MS → Option (Int32 × MS)} (hk11 : ∀ (res : Int32 × MS) (y1 : Int32) (y2 : Int32) (y3 : Int32) (T : MS), k11 y1 y2 y3 T = some res → ag_ev gc_P l G m_Md_sum (d + 1) (ag_ret gc_P G (fun v h' => v = none ∧ h' = md_up h a res.2)) 11 [(0, .ref a), (1, .int (y1)), (2, .int (y2)), (3, .int (y3))] [] (md_up h a T)) {x1 : Int32} {x2 : Int32} {x3 : Int32} {S : MS} {res : Int32 × MS} (hyp : fn_Md_sum_262 N k11 x1 x2 x3 S = some res) : ag_ev gc_P l G m_Md_sum (d + 1) (ag_ret gc_P G (fun v h' => v = none ∧ h' = md_up h a res.2)) 262 [(0, .ref a), (1, .int (x1)), (2, .int (x2)), (3, .int (x3))] [] (md_up h a S) := by
  unfold fn_Md_sum_262 at hyp
  refine ag_goto d_Md_sum_262 rfl ?_
  exact ag_dr (ag_d1 rfl (ag_d1 rfl (ag_d1 rfl (ag_d1 rfl ag_d0)))) (hk11 _ _ _ _ _ hyp)
theorem w_Md_sum_230 {l : Launch} {G : ag_G} {d N : Nat} {h : ag_H} {a : Nat} (hb : md_ok h a) (hH : 1 ≤ d) {k11 : Int32 → Int32 → Int32 → MS → Option (Int32 × MS)} (hk11 : ∀ (res : Int32 × MS) (y1 : Int32) (y2 : Int32) (y3 : Int32) (T : MS), k11 y1 y2 y3 T = some res → ag_ev gc_P l G m_Md_sum (d + 1) (ag_ret gc_P G (fun v h' => v = none ∧ h' = md_up h a res.2)) 11 [(0, .ref a), (1, .int (y1)), (2, .int (y2)), (3, .int (y3))] [] (md_up h a T)) {x1 : Int32} {x3 : Int32} {x4 : Int32} {S : MS} {res : Int32 × MS} (hyp : fn_Md_sum_230 N k11 x1 x3 x4 S = some res) : ag_ev gc_P l G m_Md_sum (d + 1) (ag_ret gc_P G (fun v h' => v = none ∧ h' = md_up h a res.2)) 230 [(0, .ref a), (1, .int (x1)), (3, .int (x3)), (4, .int (x4))] [] (md_up h a S) := by
  unfold fn_Md_sum_230 at hyp
  refine ag_aload_n d_Md_sum_230 rfl ?_
  refine ag_iload d_Md_sum_231 rfl ?_
  obtain ⟨r1, e1, hyp⟩ := md_bd hyp
  refine ag_calls (as := [.int (x4)]) d_Md_sum_233 ml_Md_150 gw_1154 (Nat.le_of_ble_eq_true rfl) (w_Md_timesLike (d := d) (by omega) e1) (fun v1 h1 q1 => ?_)
  obtain ⟨rfl, rfl⟩ := q1
  obtain ⟨r2, e2, hyp⟩ := md_bd hyp
  refine ag_callv (as := [.int (r1)]) d_Md_sum_236 ml_Md_156 gw_1151 rfl sl_Md_flush (md_at0 hb _) (Nat.le_of_ble_eq_true rfl) (w_Md_flush hb (d := d) (by omega) e2) (fun v2 h2 q2 => ?_)
  obtain ⟨rfl, rfl⟩ := q2
  refine ag_aload_n d_Md_sum_239 rfl ?_
  refine ag_iload d_Md_sum_240 rfl ?_
  obtain ⟨r3, e3, hyp⟩ := md_bd hyp
  refine ag_callv (as := [.int (x4)]) d_Md_sum_242 ml_Md_153 gw_1143 rfl sl_Md_push (md_at0 hb _) (Nat.le_of_ble_eq_true rfl) (w_Md_push hb (d := d) (by omega) e3) (fun v3 h3 q3 => ?_)
  obtain ⟨rfl, rfl⟩ := q3
  refine ag_aload_n d_Md_sum_245 rfl ?_
  refine ag_dup d_Md_sum_246 rfl ?_
  refine md_get hb d_Md_sum_247 fr_Md_87 rfl ?_
  refine ag_iconst d_Md_sum_250 ?_
  refine ag_iadd d_Md_sum_251 ?_
  refine md_puti hb d_Md_sum_252 fl_Md_87 rfl (by decide) rfl rfl ?_
  refine ag_iconst d_Md_sum_255 ?_
  refine ag_istore_n d_Md_sum_256 (by decide) ?_
  refine ag_goto d_Md_sum_257 rfl ?_
  exact ag_dr (ag_d1 rfl (ag_d1 rfl (ag_d1 rfl (ag_d1 rfl ag_d0)))) (w_Md_sum_262 hb hH hk11 hyp)
theorem w_Md_sum_260 {l : Launch} {G : ag_G} {d N : Nat} {h : ag_H} {a : Nat} (hb : md_ok h a) (hH : 1 ≤ d) {k11 : Int32 → Int32 → Int32 → MS → Option (Int32 × MS)} (hk11 : ∀ (res : Int32 × MS) (y1 : Int32) (y2 : Int32) (y3 : Int32) (T : MS), k11 y1 y2 y3 T = some res → ag_ev gc_P l G m_Md_sum (d + 1) (ag_ret gc_P G (fun v h' => v = none ∧ h' = md_up h a res.2)) 11 [(0, .ref a), (1, .int (y1)), (2, .int (y2)), (3, .int (y3))] [] (md_up h a T)) {x1 : Int32} {x2 : Int32} {S : MS} {res : Int32 × MS} (hyp : fn_Md_sum_260 N k11 x1 x2 S = some res) : ag_ev gc_P l G m_Md_sum (d + 1) (ag_ret gc_P G (fun v h' => v = none ∧ h' = md_up h a res.2)) 260 [(0, .ref a), (1, .int (x1)), (2, .int (x2))] [] (md_up h a S) := by
  unfold fn_Md_sum_260 at hyp
  refine ag_iconst d_Md_sum_260 ?_
  refine ag_istore_n d_Md_sum_261 (by decide) ?_
  exact ag_dr (ag_d1 rfl (ag_d1 rfl (ag_d1 rfl (ag_d1 rfl ag_d0)))) (w_Md_sum_262 hb hH hk11 hyp)
theorem w_Md_sum_195 {l : Launch} {G : ag_G} {d N : Nat} {h : ag_H} {a : Nat} (hb : md_ok h a) (hH : 1 ≤ d) {k11 : Int32 → Int32 → Int32 → MS → Option (Int32 × MS)} (hk11 : ∀ (res : Int32 × MS) (y1 : Int32) (y2 : Int32) (y3 : Int32) (T : MS), k11 y1 y2 y3 T = some res → ag_ev gc_P l G m_Md_sum (d + 1) (ag_ret gc_P G (fun v h' => v = none ∧ h' = md_up h a res.2)) 11 [(0, .ref a), (1, .int (y1)), (2, .int (y2)), (3, .int (y3))] [] (md_up h a T)) {x1 : Int32} {x2 : Int32} {x3 : Int32} {x4 : Int32} {S : MS} {res : Int32 × MS} (hyp : fn_Md_sum_195 N k11 x1 x2 x3 x4 S = some res) : ag_ev gc_P l G m_Md_sum (d + 1) (ag_ret gc_P G (fun v h' => v = none ∧ h' = md_up h a res.2)) 195 [(0, .ref a), (1, .int (x1)), (2, .int (x2)), (3, .int (x3)), (4, .int (x4))] [] (md_up h a S) := by
  unfold fn_Md_sum_195 at hyp
  refine ag_iload d_Md_sum_195 rfl ?_
  refine ag_bipush d_Md_sum_197 ?_
  refine ag_icmp_eq d_Md_sum_199 rfl (fun q => ?_) (fun q => ?_)
  · replace hyp := md_ifp q hyp
    exact ag_dr (ag_d1 rfl (ag_d1 rfl (ag_d1 rfl (ag_d1 rfl ag_d0)))) (w_Md_sum_230 hb hH hk11 hyp)
  · replace hyp := md_ifn q hyp
    refine ag_iload d_Md_sum_202 rfl ?_
    refine ag_bipush d_Md_sum_204 ?_
    refine ag_icmp_eq d_Md_sum_206 rfl (fun q => ?_) (fun q => ?_)
    · replace hyp := md_ifp q hyp
      exact ag_dr (ag_d1 rfl (ag_d1 rfl (ag_d1 rfl (ag_d1 rfl ag_d0)))) (w_Md_sum_230 hb hH hk11 hyp)
    · replace hyp := md_ifn q hyp
      refine ag_iload d_Md_sum_209 rfl ?_
      refine ag_bipush d_Md_sum_211 ?_
      refine ag_icmp_eq d_Md_sum_213 rfl (fun q => ?_) (fun q => ?_)
      · replace hyp := md_ifp q hyp
        exact ag_dr (ag_d1 rfl (ag_d1 rfl (ag_d1 rfl (ag_d1 rfl ag_d0)))) (w_Md_sum_230 hb hH hk11 hyp)
      · replace hyp := md_ifn q hyp
        refine ag_iload d_Md_sum_216 rfl ?_
        refine ag_bipush d_Md_sum_218 ?_
        refine ag_icmp_ne d_Md_sum_220 rfl (fun q => ?_) (fun q => ?_)
        · replace hyp := md_ifn q hyp
          exact ag_dr (ag_d1 rfl (ag_d1 rfl (ag_d1 rfl ag_d0))) (w_Md_sum_260 hb hH hk11 hyp)
        · replace hyp := md_ifp q hyp
          refine ag_aload_n d_Md_sum_223 rfl ?_
          obtain ⟨r1, e1, hyp⟩ := md_bd hyp
          refine ag_callv (as := []) d_Md_sum_224 ml_Md_160 gw_1158 rfl sl_Md_lastStar (md_at0 hb _) (Nat.le_of_ble_eq_true rfl) (w_Md_lastStar hb (d := d) (by omega) e1) (fun v1 h1 q1 => ?_)
          obtain ⟨rfl, rfl⟩ := q1
          refine ag_if_ne d_Md_sum_227 rfl (fun q => ?_) (fun q => ?_)
          · replace hyp := md_ifn q hyp
            exact ag_dr (ag_d1 rfl (ag_d1 rfl (ag_d1 rfl ag_d0))) (w_Md_sum_260 hb hH hk11 hyp)
          · replace hyp := md_ifp q hyp
            exact ag_dr (ag_d1 rfl (ag_d1 rfl (ag_d1 rfl (ag_d1 rfl ag_d0)))) (w_Md_sum_230 hb hH hk11 hyp)
theorem w_Md_sum_142 {l : Launch} {G : ag_G} {d N : Nat} {h : ag_H} {a : Nat} (hb : md_ok h a) (hH : 1 ≤ d) {k11 : Int32 → Int32 → Int32 → MS → Option (Int32 × MS)} (hk11 : ∀ (res : Int32 × MS) (y1 : Int32) (y2 : Int32) (y3 : Int32) (T : MS), k11 y1 y2 y3 T = some res → ag_ev gc_P l G m_Md_sum (d + 1) (ag_ret gc_P G (fun v h' => v = none ∧ h' = md_up h a res.2)) 11 [(0, .ref a), (1, .int (y1)), (2, .int (y2)), (3, .int (y3))] [] (md_up h a T)) {x1 : Int32} {x2 : Int32} {x3 : Int32} {S : MS} {res : Int32 × MS} (hyp : fn_Md_sum_142 N k11 x1 x2 x3 S = some res) : ag_ev gc_P l G m_Md_sum (d + 1) (ag_ret gc_P G (fun v h' => v = none ∧ h' = md_up h a res.2)) 142 [(0, .ref a), (1, .int (x1)), (2, .int (x2)), (3, .int (x3))] [] (md_up h a S) := by
  unfold fn_Md_sum_142 at hyp
  refine ag_aload_n d_Md_sum_142 rfl ?_
  refine ag_aload_n d_Md_sum_143 rfl ?_
  obtain ⟨r1, e1, hyp⟩ := md_bd hyp
  refine ag_callv (as := []) d_Md_sum_144 ml_Md_138 gw_1120 rfl sl_Md_number (md_at0 hb _) (Nat.le_of_ble_eq_true rfl) (w_Md_number hb (d := d) (by omega) e1) (fun v1 h1 q1 => ?_)
  obtain ⟨rfl, rfl⟩ := q1
  obtain ⟨r2, e2, hyp⟩ := md_bd hyp
  refine ag_callv (as := [.int (r1.1)]) d_Md_sum_147 ml_Md_144 gw_1147 rfl sl_Md_emit (md_at0 hb _) (Nat.le_of_ble_eq_true rfl) (w_Md_emit hb (d := d) (by omega) e2) (fun v2 h2 q2 => ?_)
  obtain ⟨rfl, rfl⟩ := q2
  refine ag_goto d_Md_sum_150 rfl ?_
  exact ag_dr (ag_d1 rfl (ag_d1 rfl (ag_d1 rfl (ag_d1 rfl ag_d0)))) (w_Md_sum_262 hb hH hk11 hyp)
theorem w_Md_sum_66 {l : Launch} {G : ag_G} {d N : Nat} {h : ag_H} {a : Nat} (hb : md_ok h a) (hH : 1 ≤ d) {k11 : Int32 → Int32 → Int32 → MS → Option (Int32 × MS)} (hk11 : ∀ (res : Int32 × MS) (y1 : Int32) (y2 : Int32) (y3 : Int32) (T : MS), k11 y1 y2 y3 T = some res → ag_ev gc_P l G m_Md_sum (d + 1) (ag_ret gc_P G (fun v h' => v = none ∧ h' = md_up h a res.2)) 11 [(0, .ref a), (1, .int (y1)), (2, .int (y2)), (3, .int (y3))] [] (md_up h a T)) {x1 : Int32} {x2 : Int32} {x3 : Int32} {x4 : Int32} {s1 : Int32} {S : MS} {res : Int32 × MS} (hyp : fn_Md_sum_66 N k11 x1 x2 x3 x4 s1 S = some res) : ag_ev gc_P l G m_Md_sum (d + 1) (ag_ret gc_P G (fun v h' => v = none ∧ h' = md_up h a res.2)) 66 [(0, .ref a), (1, .int (x1)), (2, .int (x2)), (3, .int (x3)), (4, .int (x4))] [.int (s1), .ref a] (md_up h a S) := by
  unfold fn_Md_sum_66 at hyp
  obtain ⟨qz, hyp⟩ := md_ifs hyp
  refine md_putz hb d_Md_sum_66 fl_Md_108 rfl (by decide) qz ?_
  refine ag_aload_n d_Md_sum_69 rfl ?_
  refine ag_iload d_Md_sum_70 rfl ?_
  obtain ⟨r1, e1, hyp⟩ := md_bd hyp
  refine ag_callv (as := [.int (x4)]) d_Md_sum_72 ml_Md_153 gw_1143 rfl sl_Md_push (md_at0 hb _) (Nat.le_of_ble_eq_true rfl) (w_Md_push hb (d := d) (by omega) e1) (fun v1 h1 q1 => ?_)
  obtain ⟨rfl, rfl⟩ := q1
  refine ag_aload_n d_Md_sum_75 rfl ?_
  refine ag_dup d_Md_sum_76 rfl ?_
  refine md_get hb d_Md_sum_77 fr_Md_87 rfl ?_
  refine ag_iconst d_Md_sum_80 ?_
  refine ag_iadd d_Md_sum_81 ?_
  refine md_puti hb d_Md_sum_82 fl_Md_87 rfl (by decide) rfl rfl ?_
  refine ag_goto d_Md_sum_85 rfl ?_
  exact ag_dr (ag_d1 rfl (ag_d1 rfl (ag_d1 rfl (ag_d1 rfl ag_d0)))) (w_Md_sum_262 hb hH hk11 hyp)
theorem w_Md_sum_44 {l : Launch} {G : ag_G} {d N : Nat} {h : ag_H} {a : Nat} (hb : md_ok h a) (hH : 1 ≤ d) {k11 : Int32 → Int32 → Int32 → MS → Option (Int32 × MS)} (hk11 : ∀ (res : Int32 × MS) (y1 : Int32) (y2 : Int32) (y3 : Int32) (T : MS), k11 y1 y2 y3 T = some res → ag_ev gc_P l G m_Md_sum (d + 1) (ag_ret gc_P G (fun v h' => v = none ∧ h' = md_up h a res.2)) 11 [(0, .ref a), (1, .int (y1)), (2, .int (y2)), (3, .int (y3))] [] (md_up h a T)) {x1 : Int32} {x3 : Int32} {x4 : Int32} {s0 : Int32} {S : MS} {res : Int32 × MS} (hyp : fn_Md_sum_44 N k11 x1 x3 x4 s0 S = some res) : ag_ev gc_P l G m_Md_sum (d + 1) (ag_ret gc_P G (fun v h' => v = none ∧ h' = md_up h a res.2)) 44 [(0, .ref a), (1, .int (x1)), (3, .int (x3)), (4, .int (x4))] [.int (s0)] (md_up h a S) := by
  unfold fn_Md_sum_44 at hyp
  refine ag_istore_n d_Md_sum_44 (by decide) ?_
  refine ag_iload d_Md_sum_45 rfl ?_
  refine ag_bipush d_Md_sum_47 ?_
  refine ag_icmp_ne d_Md_sum_49 rfl (fun q => ?_) (fun q => ?_)
  · replace hyp := md_ifn q hyp
    refine ag_iload d_Md_sum_88 rfl ?_
    refine ag_bipush d_Md_sum_90 ?_
    refine ag_icmp_lt d_Md_sum_92 rfl (fun q => ?_) (fun q => ?_)
    · replace hyp := md_ifp q hyp
      exact ag_dr (ag_d1 rfl (ag_d1 rfl (ag_d1 rfl (ag_d1 rfl ag_d0)))) (w_Md_sum_142 hb hH hk11 hyp)
    · replace hyp := md_ifn q hyp
      refine ag_iload d_Md_sum_95 rfl ?_
      refine ag_bipush d_Md_sum_97 ?_
      refine ag_icmp_gt d_Md_sum_99 rfl (fun q => ?_) (fun q => ?_)
      · replace hyp := md_ifp q hyp
        exact ag_dr (ag_d1 rfl (ag_d1 rfl (ag_d1 rfl (ag_d1 rfl ag_d0)))) (w_Md_sum_142 hb hH hk11 hyp)
      · replace hyp := md_ifn q hyp
        refine ag_aload_n d_Md_sum_102 rfl ?_
        refine ag_dup d_Md_sum_103 rfl ?_
        refine md_get hb d_Md_sum_104 fr_Md_118 rfl ?_
        refine ag_iconst d_Md_sum_107 ?_
        refine ag_iload d_Md_sum_108 rfl ?_
        refine ag_bipush d_Md_sum_110 ?_
        refine ag_isub d_Md_sum_112 ?_
        refine ag_ishl d_Md_sum_113 ?_
        refine ag_ior d_Md_sum_114 ?_
        refine md_puti hb d_Md_sum_115 fl_Md_118 rfl (by decide) rfl rfl ?_
        refine ag_aload_n d_Md_sum_118 rfl ?_
        refine ag_bipush d_Md_sum_119 ?_
        refine ag_iload d_Md_sum_121 rfl ?_
        refine ag_isub d_Md_sum_123 ?_
        refine ag_iconst d_Md_sum_124 ?_
        refine ag_isub d_Md_sum_125 ?_
        obtain ⟨r1, e1, hyp⟩ := md_bd hyp
        refine ag_callv (as := [.int ((((Int8.ofInt (65)).toInt32) - (x4)) - (Int32.ofInt 1))]) d_Md_sum_126 ml_Md_144 gw_1147 rfl sl_Md_emit (md_at0 hb _) (Nat.le_of_ble_eq_true rfl) (w_Md_emit hb (d := d) (by omega) e1) (fun v1 h1 q1 => ?_)
        obtain ⟨rfl, rfl⟩ := q1
        refine ag_aload_n d_Md_sum_129 rfl ?_
        refine ag_dup d_Md_sum_130 rfl ?_
        refine md_get hb d_Md_sum_131 fr_Md_87 rfl ?_
        refine ag_iconst d_Md_sum_134 ?_
        refine ag_iadd d_Md_sum_135 ?_
        refine md_puti hb d_Md_sum_136 fl_Md_87 rfl (by decide) rfl rfl ?_
        refine ag_goto d_Md_sum_139 rfl ?_
        exact ag_dr (ag_d1 rfl (ag_d1 rfl (ag_d1 rfl (ag_d1 rfl ag_d0)))) (w_Md_sum_262 hb hH hk11 hyp)
  · replace hyp := md_ifp q hyp
    refine ag_iinc d_Md_sum_52 rfl (by decide) ?_
    refine ag_aload_n d_Md_sum_55 rfl ?_
    refine ag_iload_n d_Md_sum_56 rfl ?_
    refine ag_iconst d_Md_sum_57 ?_
    refine ag_icmp_le d_Md_sum_58 rfl (fun q => ?_) (fun q => ?_)
    · replace hyp := md_ifp q hyp
      refine ag_iconst d_Md_sum_65 ?_
      exact ag_dr (ag_d1 rfl (ag_d1 rfl (ag_d1 rfl (ag_d1 rfl (ag_d1 rfl ag_d0))))) (w_Md_sum_66 hb hH hk11 hyp)
    · replace hyp := md_ifn q hyp
      refine ag_iconst d_Md_sum_61 ?_
      refine ag_goto d_Md_sum_62 rfl ?_
      exact ag_dr (ag_d1 rfl (ag_d1 rfl (ag_d1 rfl (ag_d1 rfl (ag_d1 rfl ag_d0))))) (w_Md_sum_66 hb hH hk11 hyp)
theorem w_Md_sum_11 {l : Launch} {G : ag_G} {d N : Nat} {h : ag_H} {a : Nat} (hb : md_ok h a) (hH : 1 ≤ d) : ∀ (n : Nat) (res : Int32 × MS) (x1 : Int32) (x2 : Int32) (x3 : Int32) (S : MS) , fn_Md_sum_11 N n x1 x2 x3 S = some res → ag_ev gc_P l G m_Md_sum (d + 1) (ag_ret gc_P G (fun v h' => v = none ∧ h' = md_up h a res.2)) 11 [(0, .ref a), (1, .int (x1)), (2, .int (x2)), (3, .int (x3))] [] (md_up h a S) := by
  intro n
  induction n with
  | zero =>
    intro res x1 x2 x3 S hyp
    cases hyp
  | succ n ih =>
    intro res x1 x2 x3 S hyp
    rw [fe_Md_sum_11] at hyp
    refine ag_iload_n d_Md_sum_11 rfl ?_
    refine ag_if_eq d_Md_sum_12 rfl (fun q => ?_) (fun q => ?_)
    · replace hyp := md_ifp q hyp
      exact ag_dr (ag_d1 rfl (ag_d1 rfl (ag_d1 rfl ag_d0))) (w_Md_sum_265 hb hH hyp)
    · replace hyp := md_ifn q hyp
      refine ag_aload_n d_Md_sum_15 rfl ?_
      refine md_get hb d_Md_sum_16 fr_Md_108 rfl ?_
      refine ag_if_ne d_Md_sum_19 rfl (fun q => ?_) (fun q => ?_)
      · replace hyp := md_ifn q hyp
        exact ag_dr (ag_d1 rfl (ag_d1 rfl (ag_d1 rfl ag_d0))) (w_Md_sum_265 hb hH hyp)
      · replace hyp := md_ifp q hyp
        refine ag_aload_n d_Md_sum_22 rfl ?_
        obtain ⟨r1, e1, hyp⟩ := md_bd hyp
        refine ag_callv (as := []) d_Md_sum_23 ml_Md_96 gw_1103 rfl sl_Md_here (md_at0 hb _) (Nat.le_of_ble_eq_true rfl) (w_Md_here hb (d := d) (by omega) e1) (fun v1 h1 q1 => ?_)
        obtain ⟨rfl, rfl⟩ := q1
        refine ag_istore d_Md_sum_26 (by decide) ?_
        refine ag_iload_n d_Md_sum_28 rfl ?_
        refine ag_if_eq d_Md_sum_29 rfl (fun q => ?_) (fun q => ?_)
        · replace hyp := md_ifp q hyp
          refine ag_iload d_Md_sum_153 rfl ?_
          refine ag_bipush d_Md_sum_155 ?_
          refine ag_icmp_ne d_Md_sum_157 rfl (fun q => ?_) (fun q => ?_)
          · replace hyp := md_ifn q hyp
            exact ag_dr (ag_d1 rfl (ag_d1 rfl (ag_d1 rfl (ag_d1 rfl (ag_d1 rfl ag_d0))))) (w_Md_sum_195 hb hH ih hyp)
          · replace hyp := md_ifp q hyp
            refine ag_iload_n d_Md_sum_160 rfl ?_
            refine ag_if_le d_Md_sum_161 rfl (fun q => ?_) (fun q => ?_)
            · replace hyp := md_ifp q hyp
              exact ag_dr (ag_d1 rfl (ag_d1 rfl (ag_d1 rfl (ag_d1 rfl (ag_d1 rfl ag_d0))))) (w_Md_sum_195 hb hH ih hyp)
            · replace hyp := md_ifn q hyp
              refine ag_aload_n d_Md_sum_164 rfl ?_
              refine ag_iconst d_Md_sum_165 ?_
              obtain ⟨r2, e2, hyp⟩ := md_bd hyp
              refine ag_callv (as := [.int (Int32.ofInt 0)]) d_Md_sum_166 ml_Md_156 gw_1151 rfl sl_Md_flush (md_at0 hb _) (Nat.le_of_ble_eq_true rfl) (w_Md_flush hb (d := d) (by omega) e2) (fun v2 h2 q2 => ?_)
              obtain ⟨rfl, rfl⟩ := q2
              refine ag_aload_n d_Md_sum_169 rfl ?_
              refine ag_dup d_Md_sum_170 rfl ?_
              refine md_get hb d_Md_sum_171 fr_Md_147 rfl ?_
              refine ag_iconst d_Md_sum_174 ?_
              refine ag_isub d_Md_sum_175 ?_
              refine md_puti hb d_Md_sum_176 fl_Md_147 rfl (by decide) rfl rfl ?_
              refine ag_iinc d_Md_sum_179 rfl (by decide) ?_
              refine ag_aload_n d_Md_sum_182 rfl ?_
              refine ag_dup d_Md_sum_183 rfl ?_
              refine md_get hb d_Md_sum_184 fr_Md_87 rfl ?_
              refine ag_iconst d_Md_sum_187 ?_
              refine ag_iadd d_Md_sum_188 ?_
              refine md_puti hb d_Md_sum_189 fl_Md_87 rfl (by decide) rfl rfl ?_
              refine ag_goto d_Md_sum_192 rfl ?_
              exact ag_dr (ag_d1 rfl (ag_d1 rfl (ag_d1 rfl (ag_d1 rfl ag_d0)))) (w_Md_sum_262 hb hH ih hyp)
        · replace hyp := md_ifn q hyp
          refine ag_iload d_Md_sum_32 rfl ?_
          refine ag_bipush d_Md_sum_34 ?_
          refine ag_icmp_ne d_Md_sum_36 rfl (fun q => ?_) (fun q => ?_)
          · replace hyp := md_ifn q hyp
            refine ag_iconst d_Md_sum_43 ?_
            exact ag_dr (ag_d1 rfl (ag_d1 rfl (ag_d1 rfl (ag_d1 rfl ag_d0)))) (w_Md_sum_44 hb hH ih hyp)
          · replace hyp := md_ifp q hyp
            refine ag_iconst d_Md_sum_39 ?_
            refine ag_goto d_Md_sum_40 rfl ?_
            exact ag_dr (ag_d1 rfl (ag_d1 rfl (ag_d1 rfl (ag_d1 rfl ag_d0)))) (w_Md_sum_44 hb hH ih hyp)
theorem w_Md_sum_0 {l : Launch} {G : ag_G} {d N : Nat} {h : ag_H} {a : Nat} (hb : md_ok h a) (hH : 1 ≤ d) {S : MS} {res : Int32 × MS} (hyp : fn_Md_sum_0 N S = some res) : ag_ev gc_P l G m_Md_sum (d + 1) (ag_ret gc_P G (fun v h' => v = none ∧ h' = md_up h a res.2)) 0 [(0, .ref a)] [] (md_up h a S) := by
  unfold fn_Md_sum_0 at hyp
  refine ag_aload_n d_Md_sum_0 rfl ?_
  refine ag_iconst d_Md_sum_1 ?_
  refine md_puti hb d_Md_sum_2 fl_Md_147 rfl (by decide) rfl rfl ?_
  refine ag_iconst d_Md_sum_5 ?_
  refine ag_istore_n d_Md_sum_6 (by decide) ?_
  refine ag_iconst d_Md_sum_7 ?_
  refine ag_istore_n d_Md_sum_8 (by decide) ?_
  refine ag_iconst d_Md_sum_9 ?_
  refine ag_istore_n d_Md_sum_10 (by decide) ?_
  exact ag_dr (ag_d1 rfl (ag_d1 rfl (ag_d1 rfl (ag_d1 rfl ag_d0)))) (w_Md_sum_11 hb hH N _ _ _ _ _ hyp)
theorem w_Md_sum {l : Launch} {G : ag_G} {d N : Nat} {h : ag_H} {a : Nat} (hb : md_ok h a) (hH : 2 ≤ d) {S : MS} {res : Int32 × MS} (hyp : fn_Md_sum N S = some res) : ag_Met gc_P l G m_Md_sum d [.ref a] (md_up h a S) (fun v h' => v = none ∧ h' = md_up h a res.2) := by
  obtain ⟨d, rfl, hG⟩ := md_dd hH
  exact ag_met (by decide) rfl (Nat.le_of_ble_eq_true rfl) (ag_dr (ag_d1 rfl ag_d0) (w_Md_sum_0 hb hG hyp))
def fn_Md_comparison_108 (N : Nat) (S : MS) : Option (Int32 × MS) := some (0, S)
def fn_Md_comparison_96 (N : Nat) (x2 : Int32) (S : MS) : Option (Int32 × MS) := if (S.1 20) = (0) then ((fn_Md_emit N (x2) S).bind fun r1 => fn_Md_comparison_108 N  r1.2) else (fn_Md_comparison_108 N  S)
def fn_Md_comparison_72 (N : Nat) (x2 : Int32) (s1 : Int32) (S : MS) : Option (Int32 × MS) := if md_01 (s1) = true then (if ((va_up (va_up S.1 20 (s1), S.2).1 16 (((va_up S.1 20 (s1), S.2).1 16) + (Int32.ofInt 1)), (va_up S.1 20 (s1), S.2).2).1 20) = (0) then ((fn_Md_sum N (va_up (va_up S.1 20 (s1), S.2).1 16 (((va_up S.1 20 (s1), S.2).1 16) + (Int32.ofInt 1)), (va_up S.1 20 (s1), S.2).2)).bind fun r1 => fn_Md_comparison_96 N (x2) r1.2) else (fn_Md_comparison_96 N (x2) (va_up (va_up S.1 20 (s1), S.2).1 16 (((va_up S.1 20 (s1), S.2).1 16) + (Int32.ofInt 1)), (va_up S.1 20 (s1), S.2).2))) else none
def fn_Md_comparison_67 (N : Nat) (x2 : Int32) (S : MS) : Option (Int32 × MS) := fn_Md_comparison_72 N (x2) (Int32.ofInt 1) S
def fn_Md_comparison_54 (N : Nat) (s0 : Int32) (S : MS) : Option (Int32 × MS) := if (S.1 20) = (0) then (if (s0) = (0) then (fn_Md_comparison_67 N (s0) S) else (fn_Md_comparison_72 N (s0) (Int32.ofInt 0) S)) else (fn_Md_comparison_67 N (s0) S)
def fn_Md_comparison_0 (N : Nat) (S : MS) : Option (Int32 × MS) := (fn_Md_sum N S).bind fun r1 => (fn_Md_here N r1.2).bind fun r2 => if (r2.1) = ((Int8.ofInt (60)).toInt32) then (fn_Md_comparison_54 N ((Int8.ofInt (-21)).toInt32) r2.2) else (if (r2.1) = ((Int8.ofInt (62)).toInt32) then (fn_Md_comparison_54 N ((Int8.ofInt (-22)).toInt32) r2.2) else (if (r2.1) = ((Int8.ofInt (61)).toInt32) then (fn_Md_comparison_54 N ((Int8.ofInt (-23)).toInt32) r2.2) else (if (r2.1) = ((Int8.ofInt (35)).toInt32) then (fn_Md_comparison_54 N ((Int8.ofInt (-24)).toInt32) r2.2) else (fn_Md_comparison_54 N (Int32.ofInt 0) r2.2))))
def fn_Md_comparison (N : Nat) (S : MS) : Option (Int32 × MS) := fn_Md_comparison_0 N S
theorem w_Md_comparison_108 {l : Launch} {G : ag_G} {d N : Nat} {h : ag_H} {a : Nat} (hb : md_ok h a) (hH : 2 ≤ d) {S : MS} {res : Int32 × MS} (hyp : fn_Md_comparison_108 N S = some res) : ag_ev gc_P l G m_Md_comparison (d + 1) (ag_ret gc_P G (fun v h' => v = none ∧ h' = md_up h a res.2)) 108 [(0, .ref a)] [] (md_up h a S) := by
  unfold fn_Md_comparison_108 at hyp
  cases hyp
  exact ag_vret d_Md_comparison_108 rfl ⟨rfl, rfl⟩
theorem w_Md_comparison_96 {l : Launch} {G : ag_G} {d N : Nat} {h : ag_H} {a : Nat} (hb : md_ok h a) (hH : 2 ≤ d) {x2 : Int32} {S : MS} {res : Int32 × MS} (hyp : fn_Md_comparison_96 N x2 S = some res) : ag_ev gc_P l G m_Md_comparison (d + 1) (ag_ret gc_P G (fun v h' => v = none ∧ h' = md_up h a res.2)) 96 [(0, .ref a), (2, .int (x2))] [] (md_up h a S) := by
  unfold fn_Md_comparison_96 at hyp
  refine ag_aload_n d_Md_comparison_96 rfl ?_
  refine md_get hb d_Md_comparison_97 fr_Md_108 rfl ?_
  refine ag_if_ne d_Md_comparison_100 rfl (fun q => ?_) (fun q => ?_)
  · replace hyp := md_ifn q hyp
    exact ag_dr (ag_d1 rfl ag_d0) (w_Md_comparison_108 hb hH hyp)
  · replace hyp := md_ifp q hyp
    refine ag_aload_n d_Md_comparison_103 rfl ?_
    refine ag_iload_n d_Md_comparison_104 rfl ?_
    obtain ⟨r1, e1, hyp⟩ := md_bd hyp
    refine ag_callv (as := [.int (x2)]) d_Md_comparison_105 ml_Md_144 gw_1147 rfl sl_Md_emit (md_at0 hb _) (Nat.le_of_ble_eq_true rfl) (w_Md_emit hb (d := d) (by omega) e1) (fun v1 h1 q1 => ?_)
    obtain ⟨rfl, rfl⟩ := q1
    exact ag_dr (ag_d1 rfl ag_d0) (w_Md_comparison_108 hb hH hyp)
theorem w_Md_comparison_72 {l : Launch} {G : ag_G} {d N : Nat} {h : ag_H} {a : Nat} (hb : md_ok h a) (hH : 2 ≤ d) {x2 : Int32} {s1 : Int32} {S : MS} {res : Int32 × MS} (hyp : fn_Md_comparison_72 N x2 s1 S = some res) : ag_ev gc_P l G m_Md_comparison (d + 1) (ag_ret gc_P G (fun v h' => v = none ∧ h' = md_up h a res.2)) 72 [(0, .ref a), (2, .int (x2))] [.int (s1), .ref a] (md_up h a S) := by
  unfold fn_Md_comparison_72 at hyp
  obtain ⟨qz, hyp⟩ := md_ifs hyp
  refine md_putz hb d_Md_comparison_72 fl_Md_108 rfl (by decide) qz ?_
  refine ag_aload_n d_Md_comparison_75 rfl ?_
  refine ag_dup d_Md_comparison_76 rfl ?_
  refine md_get hb d_Md_comparison_77 fr_Md_87 rfl ?_
  refine ag_iconst d_Md_comparison_80 ?_
  refine ag_iadd d_Md_comparison_81 ?_
  refine md_puti hb d_Md_comparison_82 fl_Md_87 rfl (by decide) rfl rfl ?_
  refine ag_aload_n d_Md_comparison_85 rfl ?_
  refine md_get hb d_Md_comparison_86 fr_Md_108 rfl ?_
  refine ag_if_ne d_Md_comparison_89 rfl (fun q => ?_) (fun q => ?_)
  · replace hyp := md_ifn q hyp
    exact ag_dr (ag_d1 rfl (ag_d1 rfl ag_d0)) (w_Md_comparison_96 hb hH hyp)
  · replace hyp := md_ifp q hyp
    refine ag_aload_n d_Md_comparison_92 rfl ?_
    obtain ⟨r1, e1, hyp⟩ := md_bd hyp
    refine ag_callv (as := []) d_Md_comparison_93 ml_Md_141 gw_1139 rfl sl_Md_sum (md_at0 hb _) (Nat.le_of_ble_eq_true rfl) (w_Md_sum hb (d := d) (by omega) e1) (fun v1 h1 q1 => ?_)
    obtain ⟨rfl, rfl⟩ := q1
    exact ag_dr (ag_d1 rfl (ag_d1 rfl ag_d0)) (w_Md_comparison_96 hb hH hyp)
theorem w_Md_comparison_67 {l : Launch} {G : ag_G} {d N : Nat} {h : ag_H} {a : Nat} (hb : md_ok h a) (hH : 2 ≤ d) {x2 : Int32} {S : MS} {res : Int32 × MS} (hyp : fn_Md_comparison_67 N x2 S = some res) : ag_ev gc_P l G m_Md_comparison (d + 1) (ag_ret gc_P G (fun v h' => v = none ∧ h' = md_up h a res.2)) 67 [(0, .ref a), (2, .int (x2))] [.ref a] (md_up h a S) := by
  unfold fn_Md_comparison_67 at hyp
  refine ag_iconst d_Md_comparison_67 ?_
  refine ag_goto d_Md_comparison_68 rfl ?_
  exact ag_dr (ag_d1 rfl (ag_d1 rfl ag_d0)) (w_Md_comparison_72 hb hH hyp)
theorem w_Md_comparison_54 {l : Launch} {G : ag_G} {d N : Nat} {h : ag_H} {a : Nat} (hb : md_ok h a) (hH : 2 ≤ d) {s0 : Int32} {S : MS} {res : Int32 × MS} (hyp : fn_Md_comparison_54 N s0 S = some res) : ag_ev gc_P l G m_Md_comparison (d + 1) (ag_ret gc_P G (fun v h' => v = none ∧ h' = md_up h a res.2)) 54 [(0, .ref a)] [.int (s0)] (md_up h a S) := by
  unfold fn_Md_comparison_54 at hyp
  refine ag_istore_n d_Md_comparison_54 (by decide) ?_
  refine ag_aload_n d_Md_comparison_55 rfl ?_
  refine ag_aload_n d_Md_comparison_56 rfl ?_
  refine md_get hb d_Md_comparison_57 fr_Md_108 rfl ?_
  refine ag_if_ne d_Md_comparison_60 rfl (fun q => ?_) (fun q => ?_)
  · replace hyp := md_ifn q hyp
    exact ag_dr (ag_d1 rfl (ag_d1 rfl ag_d0)) (w_Md_comparison_67 hb hH hyp)
  · replace hyp := md_ifp q hyp
    refine ag_iload_n d_Md_comparison_63 rfl ?_
    refine ag_if_ne d_Md_comparison_64 rfl (fun q => ?_) (fun q => ?_)
    · replace hyp := md_ifn q hyp
      refine ag_iconst d_Md_comparison_71 ?_
      exact ag_dr (ag_d1 rfl (ag_d1 rfl ag_d0)) (w_Md_comparison_72 hb hH hyp)
    · replace hyp := md_ifp q hyp
      exact ag_dr (ag_d1 rfl (ag_d1 rfl ag_d0)) (w_Md_comparison_67 hb hH hyp)
theorem w_Md_comparison_0 {l : Launch} {G : ag_G} {d N : Nat} {h : ag_H} {a : Nat} (hb : md_ok h a) (hH : 2 ≤ d) {S : MS} {res : Int32 × MS} (hyp : fn_Md_comparison_0 N S = some res) : ag_ev gc_P l G m_Md_comparison (d + 1) (ag_ret gc_P G (fun v h' => v = none ∧ h' = md_up h a res.2)) 0 [(0, .ref a)] [] (md_up h a S) := by
  unfold fn_Md_comparison_0 at hyp
  refine ag_aload_n d_Md_comparison_0 rfl ?_
  obtain ⟨r1, e1, hyp⟩ := md_bd hyp
  refine ag_callv (as := []) d_Md_comparison_1 ml_Md_141 gw_1139 rfl sl_Md_sum (md_at0 hb _) (Nat.le_of_ble_eq_true rfl) (w_Md_sum hb (d := d) (by omega) e1) (fun v1 h1 q1 => ?_)
  obtain ⟨rfl, rfl⟩ := q1
  refine ag_aload_n d_Md_comparison_4 rfl ?_
  obtain ⟨r2, e2, hyp⟩ := md_bd hyp
  refine ag_callv (as := []) d_Md_comparison_5 ml_Md_96 gw_1103 rfl sl_Md_here (md_at0 hb _) (Nat.le_of_ble_eq_true rfl) (w_Md_here hb (d := d) (by omega) e2) (fun v2 h2 q2 => ?_)
  obtain ⟨rfl, rfl⟩ := q2
  refine ag_istore_n d_Md_comparison_8 (by decide) ?_
  refine ag_iload_n d_Md_comparison_9 rfl ?_
  refine ag_bipush d_Md_comparison_10 ?_
  refine ag_icmp_ne d_Md_comparison_12 rfl (fun q => ?_) (fun q => ?_)
  · replace hyp := md_ifn q hyp
    refine ag_iload_n d_Md_comparison_20 rfl ?_
    refine ag_bipush d_Md_comparison_21 ?_
    refine ag_icmp_ne d_Md_comparison_23 rfl (fun q => ?_) (fun q => ?_)
    · replace hyp := md_ifn q hyp
      refine ag_iload_n d_Md_comparison_31 rfl ?_
      refine ag_bipush d_Md_comparison_32 ?_
      refine ag_icmp_ne d_Md_comparison_34 rfl (fun q => ?_) (fun q => ?_)
      · replace hyp := md_ifn q hyp
        refine ag_iload_n d_Md_comparison_42 rfl ?_
        refine ag_bipush d_Md_comparison_43 ?_
        refine ag_icmp_ne d_Md_comparison_45 rfl (fun q => ?_) (fun q => ?_)
        · replace hyp := md_ifn q hyp
          refine ag_iconst d_Md_comparison_53 ?_
          exact ag_dr (ag_d1 rfl ag_d0) (w_Md_comparison_54 hb hH hyp)
        · replace hyp := md_ifp q hyp
          refine ag_bipush d_Md_comparison_48 ?_
          refine ag_goto d_Md_comparison_50 rfl ?_
          exact ag_dr (ag_d1 rfl ag_d0) (w_Md_comparison_54 hb hH hyp)
      · replace hyp := md_ifp q hyp
        refine ag_bipush d_Md_comparison_37 ?_
        refine ag_goto d_Md_comparison_39 rfl ?_
        exact ag_dr (ag_d1 rfl ag_d0) (w_Md_comparison_54 hb hH hyp)
    · replace hyp := md_ifp q hyp
      refine ag_bipush d_Md_comparison_26 ?_
      refine ag_goto d_Md_comparison_28 rfl ?_
      exact ag_dr (ag_d1 rfl ag_d0) (w_Md_comparison_54 hb hH hyp)
  · replace hyp := md_ifp q hyp
    refine ag_bipush d_Md_comparison_15 ?_
    refine ag_goto d_Md_comparison_17 rfl ?_
    exact ag_dr (ag_d1 rfl ag_d0) (w_Md_comparison_54 hb hH hyp)
theorem w_Md_comparison {l : Launch} {G : ag_G} {d N : Nat} {h : ag_H} {a : Nat} (hb : md_ok h a) (hH : 3 ≤ d) {S : MS} {res : Int32 × MS} (hyp : fn_Md_comparison N S = some res) : ag_Met gc_P l G m_Md_comparison d [.ref a] (md_up h a S) (fun v h' => v = none ∧ h' = md_up h a res.2) := by
  obtain ⟨d, rfl, hG⟩ := md_dd hH
  exact ag_met (by decide) rfl (Nat.le_of_ble_eq_true rfl) (ag_dr (ag_d1 rfl ag_d0) (w_Md_comparison_0 hb hG hyp))
def fn_Md_body_159 (N : Nat) (S : MS) : Option (Int32 × MS) := some (0, S)
def fn_Md_body_155 (N : Nat) (k4 : Int32 → Int32 → MS → Option (Int32 × MS)) (x1 : Int32) (s0 : Int32) (S : MS) : Option (Int32 × MS) := k4 (x1) (s0) S
def fn_Md_body_154 (N : Nat) (k4 : Int32 → Int32 → MS → Option (Int32 × MS)) (x1 : Int32) (S : MS) : Option (Int32 × MS) := fn_Md_body_155 N k4 (x1) (Int32.ofInt 0) S
def fn_Md_body_134 (N : Nat) (k4 : Int32 → Int32 → MS → Option (Int32 × MS)) (x1 : Int32) (S : MS) : Option (Int32 × MS) := if (S.1 20) = (0) then ((fn_Md_next N ((Int8.ofInt (44)).toInt32) S).bind fun r1 => if (r1.1) = (0) then (fn_Md_body_154 N k4 (x1) r1.2) else (fn_Md_body_155 N k4 (x1) (Int32.ofInt 1) r1.2)) else (fn_Md_body_154 N k4 (x1) S)
def fn_Md_body_120 (N : Nat) (k4 : Int32 → Int32 → MS → Option (Int32 × MS)) (x1 : Int32) (s1 : Int32) (S : MS) : Option (Int32 × MS) := if md_01 (s1) = true then (if ((va_up S.1 20 (s1), S.2).1 20) = (0) then ((fn_Md_comparison N (va_up S.1 20 (s1), S.2)).bind fun r1 => fn_Md_body_134 N k4 (x1) r1.2) else (fn_Md_body_134 N k4 (x1) (va_up S.1 20 (s1), S.2))) else none
def fn_Md_body_115 (N : Nat) (k4 : Int32 → Int32 → MS → Option (Int32 × MS)) (x1 : Int32) (S : MS) : Option (Int32 × MS) := fn_Md_body_120 N k4 (x1) (Int32.ofInt 1) S
def fn_Md_body_94 (N : Nat) (k4 : Int32 → Int32 → MS → Option (Int32 × MS)) (x1 : Int32) (S : MS) : Option (Int32 × MS) := if (Int32.ofInt 2) < ((x1) + Int32.ofInt (1)) then (fn_Md_body_115 N k4 ((x1) + Int32.ofInt (1)) S) else (if md_in (S.1 19) (md_len 12) = true then (if (S.2 12 (S.1 19).toNatClampNeg) = (0) then (fn_Md_body_115 N k4 ((x1) + Int32.ofInt (1)) S) else (fn_Md_body_120 N k4 ((x1) + Int32.ofInt (1)) (Int32.ofInt 0) S)) else none)
def fn_Md_body_68 (N : Nat) (k4 : Int32 → Int32 → MS → Option (Int32 × MS)) (x1 : Int32) (s1 : Int32) (S : MS) : Option (Int32 × MS) := if md_01 (s1) = true then (if ((va_up S.1 20 (s1), S.2).1 20) = (0) then (if md_in ((va_up S.1 20 (s1), S.2).1 19) (md_len 12) = true then ((fn_Md_readAtom N ((va_up S.1 20 (s1), S.2).2 12 ((va_up S.1 20 (s1), S.2).1 19).toNatClampNeg) (va_up S.1 20 (s1), S.2)).bind fun r1 => fn_Md_body_134 N k4 (x1) r1.2) else none) else (fn_Md_body_134 N k4 (x1) (va_up S.1 20 (s1), S.2))) else none
def fn_Md_body_4 (N : Nat) : Nat → Int32 → Int32 → MS → Option (Int32 × MS)
  | 0, _, _, _ => none
  | n + 1, x1, x2, S => if (x2) = (0) then (fn_Md_body_159 N  S) else (if (S.1 20) = (0) then ((fn_Md_here N S).bind fun r1 => if (r1.1) < ((Int8.ofInt (97)).toInt32) then (fn_Md_body_94 N (fn_Md_body_4 N n) (x1) r1.2) else (if ((Int8.ofInt (122)).toInt32) < (r1.1) then (fn_Md_body_94 N (fn_Md_body_4 N n) (x1) r1.2) else (if (x1) = (0) then (if md_in (r1.2.1 19) (md_len 12) = true then (if md_in (r1.2.1 19) (md_len 12) = true then (if md_in ((r1.2.1, va_up r1.2.2 12 (upd (r1.2.2 12) (r1.2.1 19).toNatClampNeg ((r1.2.2 12 (r1.2.1 19).toNatClampNeg) + (Int32.ofInt 1)))).1 19) (md_len 12) = true then (if ((r1.2.1, va_up r1.2.2 12 (upd (r1.2.2 12) (r1.2.1 19).toNatClampNeg ((r1.2.2 12 (r1.2.1 19).toNatClampNeg) + (Int32.ofInt 1)))).2 12 ((r1.2.1, va_up r1.2.2 12 (upd (r1.2.2 12) (r1.2.1 19).toNatClampNeg ((r1.2.2 12 (r1.2.1 19).toNatClampNeg) + (Int32.ofInt 1)))).1 19).toNatClampNeg) ≤ (Int32.ofInt 3) then (fn_Md_body_68 N (fn_Md_body_4 N n) (x1) (Int32.ofInt 0) (r1.2.1, va_up r1.2.2 12 (upd (r1.2.2 12) (r1.2.1 19).toNatClampNeg ((r1.2.2 12 (r1.2.1 19).toNatClampNeg) + (Int32.ofInt 1))))) else (fn_Md_body_68 N (fn_Md_body_4 N n) (x1) (Int32.ofInt 1) (r1.2.1, va_up r1.2.2 12 (upd (r1.2.2 12) (r1.2.1 19).toNatClampNeg ((r1.2.2 12 (r1.2.1 19).toNatClampNeg) + (Int32.ofInt 1)))))) else none) else none) else none) else (fn_Md_body_94 N (fn_Md_body_4 N n) (x1) r1.2)))) else (fn_Md_body_159 N  S))
theorem fe_Md_body_4 (N : Nat) (n : Nat) (x1 : Int32) (x2 : Int32) (S : MS) : fn_Md_body_4 N (n + 1) x1 x2 S = (if (x2) = (0) then (fn_Md_body_159 N  S) else (if (S.1 20) = (0) then ((fn_Md_here N S).bind fun r1 => if (r1.1) < ((Int8.ofInt (97)).toInt32) then (fn_Md_body_94 N (fn_Md_body_4 N n) (x1) r1.2) else (if ((Int8.ofInt (122)).toInt32) < (r1.1) then (fn_Md_body_94 N (fn_Md_body_4 N n) (x1) r1.2) else (if (x1) = (0) then (if md_in (r1.2.1 19) (md_len 12) = true then (if md_in (r1.2.1 19) (md_len 12) = true then (if md_in ((r1.2.1, va_up r1.2.2 12 (upd (r1.2.2 12) (r1.2.1 19).toNatClampNeg ((r1.2.2 12 (r1.2.1 19).toNatClampNeg) + (Int32.ofInt 1)))).1 19) (md_len 12) = true then (if ((r1.2.1, va_up r1.2.2 12 (upd (r1.2.2 12) (r1.2.1 19).toNatClampNeg ((r1.2.2 12 (r1.2.1 19).toNatClampNeg) + (Int32.ofInt 1)))).2 12 ((r1.2.1, va_up r1.2.2 12 (upd (r1.2.2 12) (r1.2.1 19).toNatClampNeg ((r1.2.2 12 (r1.2.1 19).toNatClampNeg) + (Int32.ofInt 1)))).1 19).toNatClampNeg) ≤ (Int32.ofInt 3) then (fn_Md_body_68 N (fn_Md_body_4 N n) (x1) (Int32.ofInt 0) (r1.2.1, va_up r1.2.2 12 (upd (r1.2.2 12) (r1.2.1 19).toNatClampNeg ((r1.2.2 12 (r1.2.1 19).toNatClampNeg) + (Int32.ofInt 1))))) else (fn_Md_body_68 N (fn_Md_body_4 N n) (x1) (Int32.ofInt 1) (r1.2.1, va_up r1.2.2 12 (upd (r1.2.2 12) (r1.2.1 19).toNatClampNeg ((r1.2.2 12 (r1.2.1 19).toNatClampNeg) + (Int32.ofInt 1)))))) else none) else none) else none) else (fn_Md_body_94 N (fn_Md_body_4 N n) (x1) r1.2)))) else (fn_Md_body_159 N  S))) := rfl
def fn_Md_body_0 (N : Nat) (S : MS) : Option (Int32 × MS) := fn_Md_body_4 N N (Int32.ofInt 0) (Int32.ofInt 1) S
def fn_Md_body (N : Nat) (S : MS) : Option (Int32 × MS) := fn_Md_body_0 N S
theorem w_Md_body_159 {l : Launch} {G : ag_G} {d N : Nat} {h : ag_H} {a : Nat} (hb : md_ok h a) (hH : 3 ≤ d) {S : MS} {res : Int32 × MS} (hyp : fn_Md_body_159 N S = some res) : ag_ev gc_P l G m_Md_body (d + 1) (ag_ret gc_P G (fun v h' => v = none ∧ h' = md_up h a res.2)) 159 [(0, .ref a)] [] (md_up h a S) := by
  unfold fn_Md_body_159 at hyp
  cases hyp
  exact ag_vret d_Md_body_159 rfl ⟨rfl, rfl⟩
theorem w_Md_body_155 {l : Launch} {G : ag_G} {d N : Nat} {h : ag_H} {a : Nat} (hb : md_ok h a) (hH : 3 ≤ d) {k4 : Int32 → Int32 → MS → Option (Int32 × MS)} (hk4 : ∀ (res : Int32 × MS) (y1 : Int32) (y2 : Int32) (T : MS), k4 y1 y2 T = some res → ag_ev gc_P l G m_Md_body (d + 1) (ag_ret gc_P G (fun v h' => v = none ∧ h' = md_up h a res.2)) 4 [(0, .ref a), (1, .int (y1)), (2, .int (y2))] [] (md_up h a T)) {x1 : Int32} {s0 : Int32} {S : MS} {res : Int32 × MS} (hyp : fn_Md_body_155 N k4 x1 s0 S = some res) : ag_ev gc_P l G m_Md_body (d + 1) (ag_ret gc_P G (fun v h' => v = none ∧ h' = md_up h a res.2)) 155 [(0, .ref a), (1, .int (x1))] [.int (s0)] (md_up h a S) := by
  unfold fn_Md_body_155 at hyp
  refine ag_istore_n d_Md_body_155 (by decide) ?_
  refine ag_goto d_Md_body_156 rfl ?_
  exact ag_dr (ag_d1 rfl (ag_d1 rfl (ag_d1 rfl ag_d0))) (hk4 _ _ _ _ hyp)
theorem w_Md_body_154 {l : Launch} {G : ag_G} {d N : Nat} {h : ag_H} {a : Nat} (hb : md_ok h a) (hH : 3 ≤ d) {k4 : Int32 → Int32 → MS → Option (Int32 × MS)} (hk4 : ∀ (res : Int32 × MS) (y1 : Int32) (y2 : Int32) (T : MS), k4 y1 y2 T = some res → ag_ev gc_P l G m_Md_body (d + 1) (ag_ret gc_P G (fun v h' => v = none ∧ h' = md_up h a res.2)) 4 [(0, .ref a), (1, .int (y1)), (2, .int (y2))] [] (md_up h a T)) {x1 : Int32} {S : MS} {res : Int32 × MS} (hyp : fn_Md_body_154 N k4 x1 S = some res) : ag_ev gc_P l G m_Md_body (d + 1) (ag_ret gc_P G (fun v h' => v = none ∧ h' = md_up h a res.2)) 154 [(0, .ref a), (1, .int (x1))] [] (md_up h a S) := by
  unfold fn_Md_body_154 at hyp
  refine ag_iconst d_Md_body_154 ?_
  exact ag_dr (ag_d1 rfl (ag_d1 rfl ag_d0)) (w_Md_body_155 hb hH hk4 hyp)
theorem w_Md_body_134 {l : Launch} {G : ag_G} {d N : Nat} {h : ag_H} {a : Nat} (hb : md_ok h a) (hH : 3 ≤ d) {k4 : Int32 → Int32 → MS → Option (Int32 × MS)} (hk4 : ∀ (res : Int32 × MS) (y1 : Int32) (y2 : Int32) (T : MS), k4 y1 y2 T = some res → ag_ev gc_P l G m_Md_body (d + 1) (ag_ret gc_P G (fun v h' => v = none ∧ h' = md_up h a res.2)) 4 [(0, .ref a), (1, .int (y1)), (2, .int (y2))] [] (md_up h a T)) {x1 : Int32} {S : MS} {res : Int32 × MS} (hyp : fn_Md_body_134 N k4 x1 S = some res) : ag_ev gc_P l G m_Md_body (d + 1) (ag_ret gc_P G (fun v h' => v = none ∧ h' = md_up h a res.2)) 134 [(0, .ref a), (1, .int (x1))] [] (md_up h a S) := by
  unfold fn_Md_body_134 at hyp
  refine ag_aload_n d_Md_body_134 rfl ?_
  refine md_get hb d_Md_body_135 fr_Md_108 rfl ?_
  refine ag_if_ne d_Md_body_138 rfl (fun q => ?_) (fun q => ?_)
  · replace hyp := md_ifn q hyp
    exact ag_dr (ag_d1 rfl (ag_d1 rfl ag_d0)) (w_Md_body_154 hb hH hk4 hyp)
  · replace hyp := md_ifp q hyp
    refine ag_aload_n d_Md_body_141 rfl ?_
    refine ag_bipush d_Md_body_142 ?_
    obtain ⟨r1, e1, hyp⟩ := md_bd hyp
    refine ag_callv (as := [.int ((Int8.ofInt (44)).toInt32)]) d_Md_body_144 ml_Md_125 gw_1111 rfl sl_Md_next (md_at0 hb _) (Nat.le_of_ble_eq_true rfl) (w_Md_next hb (d := d) (by omega) e1) (fun v1 h1 q1 => ?_)
    obtain ⟨rfl, rfl⟩ := q1
    refine ag_if_eq d_Md_body_147 rfl (fun q => ?_) (fun q => ?_)
    · replace hyp := md_ifp q hyp
      exact ag_dr (ag_d1 rfl (ag_d1 rfl ag_d0)) (w_Md_body_154 hb hH hk4 hyp)
    · replace hyp := md_ifn q hyp
      refine ag_iconst d_Md_body_150 ?_
      refine ag_goto d_Md_body_151 rfl ?_
      exact ag_dr (ag_d1 rfl (ag_d1 rfl ag_d0)) (w_Md_body_155 hb hH hk4 hyp)
theorem w_Md_body_120 {l : Launch} {G : ag_G} {d N : Nat} {h : ag_H} {a : Nat} (hb : md_ok h a) (hH : 3 ≤ d) {k4 : Int32 → Int32 → MS → Option (Int32 × MS)} (hk4 : ∀ (res : Int32 × MS) (y1 : Int32) (y2 : Int32) (T : MS), k4 y1 y2 T = some res → ag_ev gc_P l G m_Md_body (d + 1) (ag_ret gc_P G (fun v h' => v = none ∧ h' = md_up h a res.2)) 4 [(0, .ref a), (1, .int (y1)), (2, .int (y2))] [] (md_up h a T)) {x1 : Int32} {s1 : Int32} {S : MS} {res : Int32 × MS} (hyp : fn_Md_body_120 N k4 x1 s1 S = some res) : ag_ev gc_P l G m_Md_body (d + 1) (ag_ret gc_P G (fun v h' => v = none ∧ h' = md_up h a res.2)) 120 [(0, .ref a), (1, .int (x1))] [.int (s1), .ref a] (md_up h a S) := by
  unfold fn_Md_body_120 at hyp
  obtain ⟨qz, hyp⟩ := md_ifs hyp
  refine md_putz hb d_Md_body_120 fl_Md_108 rfl (by decide) qz ?_
  refine ag_aload_n d_Md_body_123 rfl ?_
  refine md_get hb d_Md_body_124 fr_Md_108 rfl ?_
  refine ag_if_ne d_Md_body_127 rfl (fun q => ?_) (fun q => ?_)
  · replace hyp := md_ifn q hyp
    exact ag_dr (ag_d1 rfl (ag_d1 rfl ag_d0)) (w_Md_body_134 hb hH hk4 hyp)
  · replace hyp := md_ifp q hyp
    refine ag_aload_n d_Md_body_130 rfl ?_
    obtain ⟨r1, e1, hyp⟩ := md_bd hyp
    refine ag_callv (as := []) d_Md_body_131 ml_Md_131 gw_1135 rfl sl_Md_comparison (md_at0 hb _) (Nat.le_of_ble_eq_true rfl) (w_Md_comparison hb (d := d) (by omega) e1) (fun v1 h1 q1 => ?_)
    obtain ⟨rfl, rfl⟩ := q1
    exact ag_dr (ag_d1 rfl (ag_d1 rfl ag_d0)) (w_Md_body_134 hb hH hk4 hyp)
theorem w_Md_body_115 {l : Launch} {G : ag_G} {d N : Nat} {h : ag_H} {a : Nat} (hb : md_ok h a) (hH : 3 ≤ d) {k4 : Int32 → Int32 → MS → Option (Int32 × MS)} (hk4 : ∀ (res : Int32 × MS) (y1 : Int32) (y2 : Int32) (T : MS), k4 y1 y2 T = some res → ag_ev gc_P l G m_Md_body (d + 1) (ag_ret gc_P G (fun v h' => v = none ∧ h' = md_up h a res.2)) 4 [(0, .ref a), (1, .int (y1)), (2, .int (y2))] [] (md_up h a T)) {x1 : Int32} {S : MS} {res : Int32 × MS} (hyp : fn_Md_body_115 N k4 x1 S = some res) : ag_ev gc_P l G m_Md_body (d + 1) (ag_ret gc_P G (fun v h' => v = none ∧ h' = md_up h a res.2)) 115 [(0, .ref a), (1, .int (x1))] [.ref a] (md_up h a S) := by
  unfold fn_Md_body_115 at hyp
  refine ag_iconst d_Md_body_115 ?_
  refine ag_goto d_Md_body_116 rfl ?_
  exact ag_dr (ag_d1 rfl (ag_d1 rfl ag_d0)) (w_Md_body_120 hb hH hk4 hyp)
theorem w_Md_body_94 {l : Launch} {G : ag_G} {d N : Nat} {h : ag_H} {a : Nat} (hb : md_ok h a) (hH : 3 ≤ d) {k4 : Int32 → Int32 → MS → Option (Int32 × MS)} (hk4 : ∀ (res : Int32 × MS) (y1 : Int32) (y2 : Int32) (T : MS), k4 y1 y2 T = some res → ag_ev gc_P l G m_Md_body (d + 1) (ag_ret gc_P G (fun v h' => v = none ∧ h' = md_up h a res.2)) 4 [(0, .ref a), (1, .int (y1)), (2, .int (y2))] [] (md_up h a T)) {x1 : Int32} {S : MS} {res : Int32 × MS} (hyp : fn_Md_body_94 N k4 x1 S = some res) : ag_ev gc_P l G m_Md_body (d + 1) (ag_ret gc_P G (fun v h' => v = none ∧ h' = md_up h a res.2)) 94 [(0, .ref a), (1, .int (x1))] [] (md_up h a S) := by
  unfold fn_Md_body_94 at hyp
  refine ag_iinc d_Md_body_94 rfl (by decide) ?_
  refine ag_aload_n d_Md_body_97 rfl ?_
  refine ag_iload_n d_Md_body_98 rfl ?_
  refine ag_iconst d_Md_body_99 ?_
  refine ag_icmp_gt d_Md_body_100 rfl (fun q => ?_) (fun q => ?_)
  · replace hyp := md_ifp q hyp
    exact ag_dr (ag_d1 rfl (ag_d1 rfl ag_d0)) (w_Md_body_115 hb hH hk4 hyp)
  · replace hyp := md_ifn q hyp
    refine ag_aload_n d_Md_body_103 rfl ?_
    refine md_get hb d_Md_body_104 fr_Md_54 rfl ?_
    refine ag_aload_n d_Md_body_107 rfl ?_
    refine md_get hb d_Md_body_108 fr_Md_112 rfl ?_
    obtain ⟨qi, hyp⟩ := md_ifs hyp
    refine md_ald hb d_Md_body_111 (by decide) (by decide) rfl qi ?_
    refine ag_if_ne d_Md_body_112 rfl (fun q => ?_) (fun q => ?_)
    · replace hyp := md_ifn q hyp
      refine ag_iconst d_Md_body_119 ?_
      exact ag_dr (ag_d1 rfl (ag_d1 rfl ag_d0)) (w_Md_body_120 hb hH hk4 hyp)
    · replace hyp := md_ifp q hyp
      exact ag_dr (ag_d1 rfl (ag_d1 rfl ag_d0)) (w_Md_body_115 hb hH hk4 hyp)
theorem w_Md_body_68 {l : Launch} {G : ag_G} {d N : Nat} {h : ag_H} {a : Nat} (hb : md_ok h a) (hH : 3 ≤ d) {k4 : Int32 → Int32 → MS → Option (Int32 × MS)} (hk4 : ∀ (res : Int32 × MS) (y1 : Int32) (y2 : Int32) (T : MS), k4 y1 y2 T = some res → ag_ev gc_P l G m_Md_body (d + 1) (ag_ret gc_P G (fun v h' => v = none ∧ h' = md_up h a res.2)) 4 [(0, .ref a), (1, .int (y1)), (2, .int (y2))] [] (md_up h a T)) {x1 : Int32} {s1 : Int32} {S : MS} {res : Int32 × MS} (hyp : fn_Md_body_68 N k4 x1 s1 S = some res) : ag_ev gc_P l G m_Md_body (d + 1) (ag_ret gc_P G (fun v h' => v = none ∧ h' = md_up h a res.2)) 68 [(0, .ref a), (1, .int (x1))] [.int (s1), .ref a] (md_up h a S) := by
  unfold fn_Md_body_68 at hyp
  obtain ⟨qz, hyp⟩ := md_ifs hyp
  refine md_putz hb d_Md_body_68 fl_Md_108 rfl (by decide) qz ?_
  refine ag_aload_n d_Md_body_71 rfl ?_
  refine md_get hb d_Md_body_72 fr_Md_108 rfl ?_
  refine ag_if_ne d_Md_body_75 rfl (fun q => ?_) (fun q => ?_)
  · replace hyp := md_ifn q hyp
    exact ag_dr (ag_d1 rfl (ag_d1 rfl ag_d0)) (w_Md_body_134 hb hH hk4 hyp)
  · replace hyp := md_ifp q hyp
    refine ag_aload_n d_Md_body_78 rfl ?_
    refine ag_aload_n d_Md_body_79 rfl ?_
    refine md_get hb d_Md_body_80 fr_Md_54 rfl ?_
    refine ag_aload_n d_Md_body_83 rfl ?_
    refine md_get hb d_Md_body_84 fr_Md_112 rfl ?_
    obtain ⟨qi, hyp⟩ := md_ifs hyp
    refine md_ald hb d_Md_body_87 (by decide) (by decide) rfl qi ?_
    obtain ⟨r1, e1, hyp⟩ := md_bd hyp
    refine ag_callv (as := [.int ((va_up S.1 20 (s1), S.2).2 12 ((va_up S.1 20 (s1), S.2).1 19).toNatClampNeg)]) d_Md_body_88 ml_Md_121 gw_1107 rfl sl_Md_readAtom (md_at0 hb _) (Nat.le_of_ble_eq_true rfl) (w_Md_readAtom hb (d := d) (by omega) e1) (fun v1 h1 q1 => ?_)
    obtain ⟨rfl, rfl⟩ := q1
    refine ag_goto d_Md_body_91 rfl ?_
    exact ag_dr (ag_d1 rfl (ag_d1 rfl ag_d0)) (w_Md_body_134 hb hH hk4 hyp)
theorem w_Md_body_4 {l : Launch} {G : ag_G} {d N : Nat} {h : ag_H} {a : Nat} (hb : md_ok h a) (hH : 3 ≤ d) : ∀ (n : Nat) (res : Int32 × MS) (x1 : Int32) (x2 : Int32) (S : MS) , fn_Md_body_4 N n x1 x2 S = some res → ag_ev gc_P l G m_Md_body (d + 1) (ag_ret gc_P G (fun v h' => v = none ∧ h' = md_up h a res.2)) 4 [(0, .ref a), (1, .int (x1)), (2, .int (x2))] [] (md_up h a S) := by
  intro n
  induction n with
  | zero =>
    intro res x1 x2 S hyp
    cases hyp
  | succ n ih =>
    intro res x1 x2 S hyp
    rw [fe_Md_body_4] at hyp
    refine ag_iload_n d_Md_body_4 rfl ?_
    refine ag_if_eq d_Md_body_5 rfl (fun q => ?_) (fun q => ?_)
    · replace hyp := md_ifp q hyp
      exact ag_dr (ag_d1 rfl ag_d0) (w_Md_body_159 hb hH hyp)
    · replace hyp := md_ifn q hyp
      refine ag_aload_n d_Md_body_8 rfl ?_
      refine md_get hb d_Md_body_9 fr_Md_108 rfl ?_
      refine ag_if_ne d_Md_body_12 rfl (fun q => ?_) (fun q => ?_)
      · replace hyp := md_ifn q hyp
        exact ag_dr (ag_d1 rfl ag_d0) (w_Md_body_159 hb hH hyp)
      · replace hyp := md_ifp q hyp
        refine ag_aload_n d_Md_body_15 rfl ?_
        obtain ⟨r1, e1, hyp⟩ := md_bd hyp
        refine ag_callv (as := []) d_Md_body_16 ml_Md_96 gw_1103 rfl sl_Md_here (md_at0 hb _) (Nat.le_of_ble_eq_true rfl) (w_Md_here hb (d := d) (by omega) e1) (fun v1 h1 q1 => ?_)
        obtain ⟨rfl, rfl⟩ := q1
        refine ag_istore_n d_Md_body_19 (by decide) ?_
        refine ag_iload_n d_Md_body_20 rfl ?_
        refine ag_bipush d_Md_body_21 ?_
        refine ag_icmp_lt d_Md_body_23 rfl (fun q => ?_) (fun q => ?_)
        · replace hyp := md_ifp q hyp
          exact ag_dr (ag_d1 rfl (ag_d1 rfl ag_d0)) (w_Md_body_94 hb hH ih hyp)
        · replace hyp := md_ifn q hyp
          refine ag_iload_n d_Md_body_26 rfl ?_
          refine ag_bipush d_Md_body_27 ?_
          refine ag_icmp_gt d_Md_body_29 rfl (fun q => ?_) (fun q => ?_)
          · replace hyp := md_ifp q hyp
            exact ag_dr (ag_d1 rfl (ag_d1 rfl ag_d0)) (w_Md_body_94 hb hH ih hyp)
          · replace hyp := md_ifn q hyp
            refine ag_iload_n d_Md_body_32 rfl ?_
            refine ag_if_ne d_Md_body_33 rfl (fun q => ?_) (fun q => ?_)
            · replace hyp := md_ifn q hyp
              exact ag_dr (ag_d1 rfl (ag_d1 rfl ag_d0)) (w_Md_body_94 hb hH ih hyp)
            · replace hyp := md_ifp q hyp
              refine ag_aload_n d_Md_body_36 rfl ?_
              refine md_get hb d_Md_body_37 fr_Md_54 rfl ?_
              refine ag_aload_n d_Md_body_40 rfl ?_
              refine md_get hb d_Md_body_41 fr_Md_112 rfl ?_
              refine ag_dup2 d_Md_body_44 rfl rfl ?_
              obtain ⟨qi, hyp⟩ := md_ifs hyp
              refine md_ald hb d_Md_body_45 (by decide) (by decide) rfl qi ?_
              refine ag_iconst d_Md_body_46 ?_
              refine ag_iadd d_Md_body_47 ?_
              obtain ⟨qi, hyp⟩ := md_ifs hyp
              refine md_ast hb d_Md_body_48 (by decide) (by decide) rfl qi ?_
              refine ag_aload_n d_Md_body_49 rfl ?_
              refine ag_aload_n d_Md_body_50 rfl ?_
              refine md_get hb d_Md_body_51 fr_Md_54 rfl ?_
              refine ag_aload_n d_Md_body_54 rfl ?_
              refine md_get hb d_Md_body_55 fr_Md_112 rfl ?_
              obtain ⟨qi, hyp⟩ := md_ifs hyp
              refine md_ald hb d_Md_body_58 (by decide) (by decide) rfl qi ?_
              refine ag_iconst d_Md_body_59 ?_
              refine ag_icmp_le d_Md_body_60 rfl (fun q => ?_) (fun q => ?_)
              · replace hyp := md_ifp q hyp
                refine ag_iconst d_Md_body_67 ?_
                exact ag_dr (ag_d1 rfl (ag_d1 rfl ag_d0)) (w_Md_body_68 hb hH ih hyp)
              · replace hyp := md_ifn q hyp
                refine ag_iconst d_Md_body_63 ?_
                refine ag_goto d_Md_body_64 rfl ?_
                exact ag_dr (ag_d1 rfl (ag_d1 rfl ag_d0)) (w_Md_body_68 hb hH ih hyp)
theorem w_Md_body_0 {l : Launch} {G : ag_G} {d N : Nat} {h : ag_H} {a : Nat} (hb : md_ok h a) (hH : 3 ≤ d) {S : MS} {res : Int32 × MS} (hyp : fn_Md_body_0 N S = some res) : ag_ev gc_P l G m_Md_body (d + 1) (ag_ret gc_P G (fun v h' => v = none ∧ h' = md_up h a res.2)) 0 [(0, .ref a)] [] (md_up h a S) := by
  unfold fn_Md_body_0 at hyp
  refine ag_iconst d_Md_body_0 ?_
  refine ag_istore_n d_Md_body_1 (by decide) ?_
  refine ag_iconst d_Md_body_2 ?_
  refine ag_istore_n d_Md_body_3 (by decide) ?_
  exact ag_dr (ag_d1 rfl (ag_d1 rfl (ag_d1 rfl ag_d0))) (w_Md_body_4 hb hH N _ _ _ _ hyp)
theorem w_Md_body {l : Launch} {G : ag_G} {d N : Nat} {h : ag_H} {a : Nat} (hb : md_ok h a) (hH : 4 ≤ d) {S : MS} {res : Int32 × MS} (hyp : fn_Md_body N S = some res) : ag_Met gc_P l G m_Md_body d [.ref a] (md_up h a S) (fun v h' => v = none ∧ h' = md_up h a res.2) := by
  obtain ⟨d, rfl, hG⟩ := md_dd hH
  exact ag_met (by decide) rfl (Nat.le_of_ble_eq_true rfl) (ag_dr (ag_d1 rfl ag_d0) (w_Md_body_0 hb hG hyp))
