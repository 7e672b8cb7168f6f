/-! Ln_isAtLastStar, Rd_readProduct, Rd_readSum, GC_isComparison, Rd_readComparison, Rd_readBody, Ar_copyOf3, Cl_init, Rd_read, GC_moveLine, GC_clause -/
def fn_Ln_isAtLastStar_18 (N : Nat) (C : Nat × Nat) (a : Nat) : Nat → Int32 → ag_H → Option ((Int32) × ag_H)
  | 0, _, _ => none
  | n + 1, x1, h => (ag_gi h (some (a)) 1 1).bind fun g3 => if (g3) ≤ (x1) then (if md_01 (Int32.ofInt 1) = true then (some ((Int32.ofInt 1), h)) else none) else ((ag_gr h (some (a)) 1 0).bind fun g8 => (ag_ai h 1 (g8)).bind fun p10 => if md_in (x1) p10.1 = true then (if (p10.2 (x1).toNatClampNeg) = ((Int8.ofInt (32)).toInt32) then (fn_Ln_isAtLastStar_18 N C a n ((x1) + Int32.ofInt (1)) h) else (if md_01 (Int32.ofInt 0) = true then (some ((Int32.ofInt 0), h)) else none)) else none)
theorem fe_Ln_isAtLastStar_18 (N : Nat) (C : Nat × Nat) (a : Nat) (n : Nat) (x1 : Int32) (h : ag_H) : fn_Ln_isAtLastStar_18 N C a (n + 1) x1 h = ((ag_gi h (some (a)) 1 1).bind fun g3 => if (g3) ≤ (x1) then (if md_01 (Int32.ofInt 1) = true then (some ((Int32.ofInt 1), h)) else none) else ((ag_gr h (some (a)) 1 0).bind fun g8 => (ag_ai h 1 (g8)).bind fun p10 => if md_in (x1) p10.1 = true then (if (p10.2 (x1).toNatClampNeg) = ((Int8.ofInt (32)).toInt32) then (fn_Ln_isAtLastStar_18 N C a n ((x1) + Int32.ofInt (1)) h) else (if md_01 (Int32.ofInt 0) = true then (some ((Int32.ofInt 0), h)) else none)) else none)) := rfl
def fn_Ln_isAtLastStar_0 (N : Nat) (C : Nat × Nat) (a : Nat) (h : ag_H) : Option ((Int32) × ag_H) := (ag_rc h (some (a)) 1).bind fun a2 => (fn_Ln_sign N C a2  h).bind fun r2 => if (r2.1) = ((Int8.ofInt (42)).toInt32) then ((ag_gi r2.2 (some (a)) 1 2).bind fun g6 => fn_Ln_isAtLastStar_18 N C a N ((g6) + (Int32.ofInt 1)) r2.2) else (if md_01 (Int32.ofInt 0) = true then (some ((Int32.ofInt 0), r2.2)) else none)
def fn_Ln_isAtLastStar (N : Nat) (C : Nat × Nat) (a : Nat) (h : ag_H) : Option ((Int32) × ag_H) := fn_Ln_isAtLastStar_0 N C a h
theorem w_Ln_isAtLastStar_18 {l : Launch} {G : ag_G} {d N : Nat} {C : Nat × Nat} {a : Nat} (hC : ag_cN G = C.1 ∧ ag_cS G = C.2) (hH : 0 ≤ d) : ∀ (n : Nat) (res : (Int32) × ag_H) (x1 : Int32) (h : ag_H) , fn_Ln_isAtLastStar_18 N C a n x1 h = some res → ag_ev gc_P l G m_Ln_isAtLastStar (d + 1) (ag_ret gc_P G (fun v h' => v = some (.int res.1) ∧ h' = res.2)) 18 [(0, .ref a), (1, .int (x1))] [] h := by
  intro n
  induction n with
  | zero =>
    intro res x1 h hyp
    cases hyp
  | succ n ih =>
    intro res x1 h hyp
    rw [fe_Ln_isAtLastStar_18] at hyp
    have hc : ag_C1 [(0, .ref a), (1, .int (x1))] := (ag_c1 rfl (ag_c1 rfl ag_c0))
    refine ag_iload_n d_Ln_isAtLastStar_18 rfl ?_
    refine gc_aload_n (r := (some (a))) d_Ln_isAtLastStar_19 rfl ?_
    obtain ⟨g3, eg3, hyp⟩ := md_bd hyp
    refine gc_geti (r := (some (a))) d_Ln_isAtLastStar_20 fr_Ln_15 eg3 ?_
    refine ag_icmp_ge d_Ln_isAtLastStar_23 rfl (fun q => ?_) (fun q => ?_)
    · replace hyp := md_ifp q hyp
      refine ag_iconst d_Ln_isAtLastStar_45 ?_
      obtain ⟨q6, hyp⟩ := md_ifs hyp
      cases hyp
      exact ag_iret d_Ln_isAtLastStar_46 rfl (md_01n q6) ⟨rfl, rfl⟩
    · replace hyp := md_ifn q hyp
      refine gc_aload_n (r := (some (a))) d_Ln_isAtLastStar_26 rfl ?_
      obtain ⟨g8, eg8, hyp⟩ := md_bd hyp
      refine gc_getr (r := (some (a))) d_Ln_isAtLastStar_27 fr_Ln_9 eg8 ?_
      refine ag_iload_n d_Ln_isAtLastStar_30 rfl ?_
      obtain ⟨p10, ep10, hyp⟩ := md_bd hyp
      obtain ⟨q10, hyp⟩ := md_ifs hyp
      refine gc_cld (r := (g8)) d_Ln_isAtLastStar_31 ep10 q10 ?_
      refine ag_bipush d_Ln_isAtLastStar_32 ?_
      refine ag_icmp_eq d_Ln_isAtLastStar_34 rfl (fun q => ?_) (fun q => ?_)
      · replace hyp := md_ifp q hyp
        refine gc_iinc d_Ln_isAtLastStar_39 rfl (by decide) hc ?_
        replace hc := ag_cs (i := 1) (v := .int ((x1) + Int32.ofInt (1))) hc rfl
        refine ag_goto d_Ln_isAtLastStar_42 rfl ?_
        exact ag_dr (ag_d1 rfl (ag_d1 rfl ag_d0)) (ih _ _ _ hyp)
      · replace hyp := md_ifn q hyp
        refine ag_iconst d_Ln_isAtLastStar_37 ?_
        obtain ⟨q16, hyp⟩ := md_ifs hyp
        cases hyp
        exact ag_iret d_Ln_isAtLastStar_38 rfl (md_01n q16) ⟨rfl, rfl⟩
theorem w_Ln_isAtLastStar_0 {l : Launch} {G : ag_G} {d N : Nat} {C : Nat × Nat} {a : Nat} (hC : ag_cN G = C.1 ∧ ag_cS G = C.2) (hH : 0 ≤ d) {h : ag_H} {res : (Int32) × ag_H} (hyp : fn_Ln_isAtLastStar_0 N C a h = some res) : ag_ev gc_P l G m_Ln_isAtLastStar (d + 1) (ag_ret gc_P G (fun v h' => v = some (.int res.1) ∧ h' = res.2)) 0 [(0, .ref a)] [] h := by
  unfold fn_Ln_isAtLastStar_0 at hyp
  have hc : ag_C1 [(0, .ref a)] := (ag_c1 rfl ag_c0)
  refine gc_aload_n (r := (some (a))) d_Ln_isAtLastStar_0 rfl ?_
  obtain ⟨a2, ea2, hyp⟩ := md_bd hyp
  obtain ⟨r2, er2, hyp⟩ := md_bd hyp
  refine gc_callv (r := (some (a))) (as := []) d_Ln_isAtLastStar_1 ml_Ln_22 gw_299 rfl sl_Ln_sign ea2 (Nat.le_of_ble_eq_true rfl) (w_Ln_sign hC (d := d) (by omega) er2) (fun v2 h2 q2 => ?_)
  obtain ⟨rfl, rfl⟩ := q2
  refine ag_bipush d_Ln_isAtLastStar_4 ?_
  refine ag_icmp_eq d_Ln_isAtLastStar_6 rfl (fun q => ?_) (fun q => ?_)
  · replace hyp := md_ifp q hyp
    refine gc_aload_n (r := (some (a))) d_Ln_isAtLastStar_11 rfl ?_
    obtain ⟨g6, eg6, hyp⟩ := md_bd hyp
    refine gc_geti (r := (some (a))) d_Ln_isAtLastStar_12 fr_Ln_19 eg6 ?_
    refine ag_iconst d_Ln_isAtLastStar_15 ?_
    refine ag_iadd d_Ln_isAtLastStar_16 ?_
    refine gc_istore_n d_Ln_isAtLastStar_17 (by decide) hc ?_
    replace hc := ag_cs (i := 1) (v := .int ((g6) + (Int32.ofInt 1))) hc rfl
    exact ag_dr (ag_d1 rfl (ag_d1 rfl ag_d0)) (w_Ln_isAtLastStar_18 hC hH N _ _ _ hyp)
  · replace hyp := md_ifn q hyp
    refine ag_iconst d_Ln_isAtLastStar_9 ?_
    obtain ⟨q11, hyp⟩ := md_ifs hyp
    cases hyp
    exact ag_iret d_Ln_isAtLastStar_10 rfl (md_01n q11) ⟨rfl, rfl⟩
theorem w_Ln_isAtLastStar {l : Launch} {G : ag_G} {d N : Nat} {C : Nat × Nat} (hC : ag_cN G = C.1 ∧ ag_cS G = C.2) (hH : 0 + 1 ≤ d) {a : Nat} {h : ag_H} {res : (Int32) × ag_H} (hyp : fn_Ln_isAtLastStar N C a h = some res) : ag_Met gc_P l G m_Ln_isAtLastStar d [.ref a] h (fun v h' => v = some (.int res.1) ∧ h' = res.2) := by
  obtain ⟨d, rfl, hG⟩ := md_dd hH
  exact ag_met (by decide) rfl (Nat.le_of_ble_eq_true rfl) (ag_dr (ag_d1 rfl ag_d0) (w_Ln_isAtLastStar_0 hC hG hyp))
def fn_Rd_readProduct_98 (N : Nat) (C : Nat × Nat) (kR : Nat → Option Nat → Int32 → ag_H → Option ((Int32) × ag_H)) (a : Nat) (x3 : Int32) (h : ag_H) : Option ((Int32) × ag_H) := if md_01 (x3) = true then (some ((x3), h)) else none
def fn_Rd_readProduct_91 (N : Nat) (C : Nat × Nat) (kR : Nat → Option Nat → Int32 → ag_H → Option ((Int32) × ag_H)) (a : Nat) (k10 : Option Nat → Int32 → Int32 → Int32 → ag_H → Option ((Int32) × ag_H)) (x1 : Option Nat) (x2 : Int32) (x4 : Int32) (s0 : Int32) (h : ag_H) : Option ((Int32) × ag_H) := k10 (x1) (x2) (s0) ((x4) + Int32.ofInt (1)) h
def fn_Rd_readProduct_90 (N : Nat) (C : Nat × Nat) (kR : Nat → Option Nat → Int32 → ag_H → Option ((Int32) × ag_H)) (a : Nat) (k10 : Option Nat → Int32 → Int32 → Int32 → ag_H → Option ((Int32) × ag_H)) (x1 : Option Nat) (x2 : Int32) (x4 : Int32) (h : ag_H) : Option ((Int32) × ag_H) := fn_Rd_readProduct_91 N C kR a k10 (x1) (x2) (x4) (Int32.ofInt 0) h
def fn_Rd_readProduct_57 (N : Nat) (C : Nat × Nat) (kR : Nat → Option Nat → Int32 → ag_H → Option ((Int32) × ag_H)) (a : Nat) (k10 : Option Nat → Int32 → Int32 → Int32 → ag_H → Option ((Int32) × ag_H)) (x1 : Option Nat) (x2 : Int32) (x3 : Int32) (x4 : Int32) (s0 : Int32) (h : ag_H) : Option ((Int32) × ag_H) := if (s0) = (0) then (fn_Rd_readProduct_98 N C kR a (x3) h) else ((ag_rc h (some (a)) 2).bind fun a7 => (fn_Rd_readFactor N C kR a7 (x1) (x2) h).bind fun r7 => if (r7.1) = (0) then (fn_Rd_readProduct_90 N C kR a k10 (x1) (x2) (x4) r7.2) else ((ag_rc r7.2 (some (a)) 2).bind fun a12 => (fn_Rd_addStep N C a12 (-(s0)) r7.2).bind fun r12 => if (r12.1) = (0) then (fn_Rd_readProduct_90 N C kR a k10 (x1) (x2) (x4) r12.2) else (fn_Rd_readProduct_91 N C kR a k10 (x1) (x2) (x4) (Int32.ofInt 1) r12.2)))
def fn_Rd_readProduct_10 (N : Nat) (C : Nat × Nat) (kR : Nat → Option Nat → Int32 → ag_H → Option ((Int32) × ag_H)) (a : Nat) : Nat → Option Nat → Int32 → Int32 → Int32 → ag_H → Option ((Int32) × ag_H)
  | 0, _, _, _, _, _ => none
  | n + 1, x1, x2, x3, x4, h => if (x3) = (0) then (fn_Rd_readProduct_98 N C kR a (x3) h) else (if ((Int8.ofInt (40)).toInt32) ≤ (x4) then (fn_Rd_readProduct_98 N C kR a (x3) h) else ((ag_rc h (x1) 1).bind fun a7 => (fn_Ln_isAtLastStar N C a7  h).bind fun r7 => if (r7.1) = (0) then ((ag_rc r7.2 (x1) 1).bind fun a11 => (fn_Ln_takes N C a11 ((Int8.ofInt (42)).toInt32) r7.2).bind fun r11 => if (r11.1) = (0) then ((ag_rc r11.2 (x1) 1).bind fun a15 => (fn_Ln_takes N C a15 ((Int8.ofInt (47)).toInt32) r11.2).bind fun r15 => if (r15.1) = (0) then (fn_Rd_readProduct_57 N C kR a (fn_Rd_readProduct_10 N C kR a n) (x1) (x2) (x3) (x4) (Int32.ofInt 0) r15.2) else (fn_Rd_readProduct_57 N C kR a (fn_Rd_readProduct_10 N C kR a n) (x1) (x2) (x3) (x4) ((Int8.ofInt (47)).toInt32) r15.2)) else (fn_Rd_readProduct_57 N C kR a (fn_Rd_readProduct_10 N C kR a n) (x1) (x2) (x3) (x4) ((Int8.ofInt (42)).toInt32) r11.2)) else (fn_Rd_readProduct_98 N C kR a (x3) r7.2)))
theorem fe_Rd_readProduct_10 (N : Nat) (C : Nat × Nat) (kR : Nat → Option Nat → Int32 → ag_H → Option ((Int32) × ag_H)) (a : Nat) (n : Nat) (x1 : Option Nat) (x2 : Int32) (x3 : Int32) (x4 : Int32) (h : ag_H) : fn_Rd_readProduct_10 N C kR a (n + 1) x1 x2 x3 x4 h = (if (x3) = (0) then (fn_Rd_readProduct_98 N C kR a (x3) h) else (if ((Int8.ofInt (40)).toInt32) ≤ (x4) then (fn_Rd_readProduct_98 N C kR a (x3) h) else ((ag_rc h (x1) 1).bind fun a7 => (fn_Ln_isAtLastStar N C a7  h).bind fun r7 => if (r7.1) = (0) then ((ag_rc r7.2 (x1) 1).bind fun a11 => (fn_Ln_takes N C a11 ((Int8.ofInt (42)).toInt32) r7.2).bind fun r11 => if (r11.1) = (0) then ((ag_rc r11.2 (x1) 1).bind fun a15 => (fn_Ln_takes N C a15 ((Int8.ofInt (47)).toInt32) r11.2).bind fun r15 => if (r15.1) = (0) then (fn_Rd_readProduct_57 N C kR a (fn_Rd_readProduct_10 N C kR a n) (x1) (x2) (x3) (x4) (Int32.ofInt 0) r15.2) else (fn_Rd_readProduct_57 N C kR a (fn_Rd_readProduct_10 N C kR a n) (x1) (x2) (x3) (x4) ((Int8.ofInt (47)).toInt32) r15.2)) else (fn_Rd_readProduct_57 N C kR a (fn_Rd_readProduct_10 N C kR a n) (x1) (x2) (x3) (x4) ((Int8.ofInt (42)).toInt32) r11.2)) else (fn_Rd_readProduct_98 N C kR a (x3) r7.2)))) := rfl
def fn_Rd_readProduct_0 (N : Nat) (C : Nat × Nat) (kR : Nat → Option Nat → Int32 → ag_H → Option ((Int32) × ag_H)) (a : Nat) (x1 : Option Nat) (x2 : Int32) (h : ag_H) : Option ((Int32) × ag_H) := (ag_rc h (some (a)) 2).bind fun a4 => (fn_Rd_readFactor N C kR a4 (x1) (x2) h).bind fun r4 => fn_Rd_readProduct_10 N C kR a N (x1) (x2) (r4.1) (Int32.ofInt 0) r4.2
def fn_Rd_readProduct (N : Nat) (C : Nat × Nat) (kR : Nat → Option Nat → Int32 → ag_H → Option ((Int32) × ag_H)) (a : Nat) (p1 : Option Nat) (p2 : Int32) (h : ag_H) : Option ((Int32) × ag_H) := fn_Rd_readProduct_0 N C kR a p1 p2 h
theorem w_Rd_readProduct_98 {l : Launch} {G : ag_G} {d N Hk : Nat} {C : Nat × Nat} {a : Nat} {kR : Nat → Option Nat → Int32 → ag_H → Option ((Int32) × ag_H)} (hC : ag_cN G = C.1 ∧ ag_cS G = C.2) (hkR : ∀ (dk : Nat), Hk ≤ dk → ∀ (ua : Nat) (u0 : Option Nat) (u1 : Int32) (hh : ag_H) (res : (Int32) × ag_H), kR ua u0 u1 hh = some res → ag_Met gc_P l G m_Rd_readSum dk [.ref ua, ag_rf u0, .int u1] hh (fun v h' => v = some (.int res.1) ∧ h' = res.2)) (hH : Hk + 1 ≤ d) {x3 : Int32} {h : ag_H} {res : (Int32) × ag_H} (hyp : fn_Rd_readProduct_98 N C kR a x3 h = some res) : ag_ev gc_P l G m_Rd_readProduct (d + 1) (ag_ret gc_P G (fun v h' => v = some (.int res.1) ∧ h' = res.2)) 98 [(0, .ref a), (3, .int (x3))] [] h := by
  unfold fn_Rd_readProduct_98 at hyp
  have hc : ag_C1 [(0, .ref a), (3, .int (x3))] := (ag_c1 rfl (ag_c1 rfl ag_c0))
  refine ag_iload_n d_Rd_readProduct_98 rfl ?_
  obtain ⟨q2, hyp⟩ := md_ifs hyp
  cases hyp
  exact ag_iret d_Rd_readProduct_99 rfl (md_01n q2) ⟨rfl, rfl⟩
theorem w_Rd_readProduct_91 {l : Launch} {G : ag_G} {d N Hk : Nat} {C : Nat × Nat} {a : Nat} {kR : Nat → Option Nat → Int32 → ag_H → Option ((Int32) × ag_H)} (hC : ag_cN G = C.1 ∧ ag_cS G = C.2) (hkR : ∀ (dk : Nat), Hk ≤ dk → ∀ (ua : Nat) (u0 : Option Nat) (u1 : Int32) (hh : ag_H) (res : (Int32) × ag_H), kR ua u0 u1 hh = some res → ag_Met gc_P l G m_Rd_readSum dk [.ref ua, ag_rf u0, .int u1] hh (fun v h' => v = some (.int res.1) ∧ h' = res.2)) (hH : Hk + 1 ≤ d) {k10 : Option Nat → Int32 → Int32 → Int32 → ag_H → Option ((Int32) × ag_H)} (hk10 : ∀ (res : (Int32) × ag_H) (y1 : Option Nat) (y2 : Int32) (y3 : Int32) (y4 : Int32) (hh : ag_H), k10 y1 y2 y3 y4 hh = some res → ag_ev gc_P l G m_Rd_readProduct (d + 1) (ag_ret gc_P G (fun v h' => v = some (.int res.1) ∧ h' = res.2)) 10 [(0, .ref a), (1, ag_rf (y1)), (2, .int (y2)), (3, .int (y3)), (4, .int (y4))] [] hh) {x1 : Option Nat} {x2 : Int32} {x4 : Int32} {s0 : Int32} {h : ag_H} {res : (Int32) × ag_H} (hyp : fn_Rd_readProduct_91 N C kR a k10 x1 x2 x4 s0 h = some res) : ag_ev gc_P l G m_Rd_readProduct (d + 1) (ag_ret gc_P G (fun v h' => v = some (.int res.1) ∧ h' = res.2)) 91 [(0, .ref a), (1, ag_rf (x1)), (2, .int (x2)), (4, .int (x4))] [.int (s0)] h := by
  unfold fn_Rd_readProduct_91 at hyp
  have hc : ag_C1 [(0, .ref a), (1, ag_rf (x1)), (2, .int (x2)), (4, .int (x4))] := (ag_c1 rfl (ag_c1 (ag_cat_rf _) (ag_c1 rfl (ag_c1 rfl ag_c0))))
  refine gc_istore_n d_Rd_readProduct_91 (by decide) hc ?_
  replace hc := ag_cs (i := 3) (v := .int (s0)) hc rfl
  refine gc_iinc d_Rd_readProduct_92 rfl (by decide) hc ?_
  replace hc := ag_cs (i := 4) (v := .int ((x4) + Int32.ofInt (1))) hc rfl
  refine ag_goto d_Rd_readProduct_95 rfl ?_
  exact ag_dr (ag_d1 rfl (ag_d1 rfl (ag_d1 rfl (ag_d1 rfl (ag_d1 rfl ag_d0))))) (hk10 _ _ _ _ _ _ hyp)
theorem w_Rd_readProduct_90 {l : Launch} {G : ag_G} {d N Hk : Nat} {C : Nat × Nat} {a : Nat} {kR : Nat → Option Nat → Int32 → ag_H → Option ((Int32) × ag_H)} (hC : ag_cN G = C.1 ∧ ag_cS G = C.2) (hkR : ∀ (dk : Nat), Hk ≤ dk → ∀ (ua : Nat) (u0 : Option Nat) (u1 : Int32) (hh : ag_H) (res : (Int32) × ag_H), kR ua u0 u1 hh = some res → ag_Met gc_P l G m_Rd_readSum dk [.ref ua, ag_rf u0, .int u1] hh (fun v h' => v = some (.int res.1) ∧ h' = res.2)) (hH : Hk + 1 ≤ d) {k10 : Option Nat → Int32 → Int32 → Int32 → ag_H → Option ((Int32) × ag_H)} (hk10 : ∀ (res : (Int32) × ag_H) (y1 : Option Nat) (y2 : Int32) (y3 : Int32) (y4 : Int32) (hh : ag_H), k10 y1 y2 y3 y4 hh = some res → ag_ev gc_P l G m_Rd_readProduct (d + 1) (ag_ret gc_P G (fun v h' => v = some (.int res.1) ∧ h' = res.2)) 10 [(0, .ref a), (1, ag_rf (y1)), (2, .int (y2)), (3, .int (y3)), (4, .int (y4))] [] hh) {x1 : Option Nat} {x2 : Int32} {x4 : Int32} {h : ag_H} {res : (Int32) × ag_H} (hyp : fn_Rd_readProduct_90 N C kR a k10 x1 x2 x4 h = some res) : ag_ev gc_P l G m_Rd_readProduct (d + 1) (ag_ret gc_P G (fun v h' => v = some (.int res.1) ∧ h' = res.2)) 90 [(0, .ref a), (1, ag_rf (x1)), (2, .int (x2)), (4, .int (x4))] [] h := by
  unfold fn_Rd_readProduct_90 at hyp
  have hc : ag_C1 [(0, .ref a), (1, ag_rf (x1)), (2, .int (x2)), (4, .int (x4))] := (ag_c1 rfl (ag_c1 (ag_cat_rf _) (ag_c1 rfl (ag_c1 rfl ag_c0))))
  refine ag_iconst d_Rd_readProduct_90 ?_
  exact ag_dr (ag_d1 rfl (ag_d1 rfl (ag_d1 rfl (ag_d1 rfl ag_d0)))) (w_Rd_readProduct_91 hC hkR hH hk10 hyp)
theorem w_Rd_readProduct_57 {l : Launch} {G : ag_G} {d N Hk : Nat} {C : Nat × Nat} {a : Nat} {kR : Nat → Option Nat → Int32 → ag_H → Option ((Int32) × ag_H)} (hC : ag_cN G = C.1 ∧ ag_cS G = C.2) (hkR : ∀ (dk : Nat), Hk ≤ dk → ∀ (ua : Nat) (u0 : Option Nat) (u1 : Int32) (hh : ag_H) (res : (Int32) × ag_H), kR ua u0 u1 hh = some res → ag_Met gc_P l G m_Rd_readSum dk [.ref ua, ag_rf u0, .int u1] hh (fun v h' => v = some (.int res.1) ∧ h' = res.2)) (hH : Hk + 1 ≤ d) {k10 : Option Nat → Int32 → Int32 → Int32 → ag_H → Option ((Int32) × ag_H)} (hk10 : ∀ (res : (Int32) × ag_H) (y1 : Option Nat) (y2 : Int32) (y3 : Int32) (y4 : Int32) (hh : ag_H), k10 y1 y2 y3 y4 hh = some res → ag_ev gc_P l G m_Rd_readProduct (d + 1) (ag_ret gc_P G (fun v h' => v = some (.int res.1) ∧ h' = res.2)) 10 [(0, .ref a), (1, ag_rf (y1)), (2, .int (y2)), (3, .int (y3)), (4, .int (y4))] [] hh) {x1 : Option Nat} {x2 : Int32} {x3 : Int32} {x4 : Int32} {s0 : Int32} {h : ag_H} {res : (Int32) × ag_H} (hyp : fn_Rd_readProduct_57 N C kR a k10 x1 x2 x3 x4 s0 h = some res) : ag_ev gc_P l G m_Rd_readProduct (d + 1) (ag_ret gc_P G (fun v h' => v = some (.int res.1) ∧ h' = res.2)) 57 [(0, .ref a), (1, ag_rf (x1)), (2, .int (x2)), (3, .int (x3)), (4, .int (x4))] [.int (s0)] h := by
  unfold fn_Rd_readProduct_57 at hyp
  have hc : ag_C1 [(0, .ref a), (1, ag_rf (x1)), (2, .int (x2)), (3, .int (x3)), (4, .int (x4))] := (ag_c1 rfl (ag_c1 (ag_cat_rf _) (ag_c1 rfl (ag_c1 rfl (ag_c1 rfl ag_c0)))))
  refine gc_istore d_Rd_readProduct_57 (by decide) hc ?_
  replace hc := ag_cs (i := 5) (v := .int (s0)) hc rfl
  refine ag_iload d_Rd_readProduct_59 rfl ?_
  refine ag_if_ne d_Rd_readProduct_61 rfl (fun q => ?_) (fun q => ?_)
  · replace hyp := md_ifn q hyp
    refine gc_aload_n (r := (some (a))) d_Rd_readProduct_67 rfl ?_
    refine gc_aload_n (r := (x1)) d_Rd_readProduct_68 rfl ?_
    refine ag_iload_n d_Rd_readProduct_69 rfl ?_
    obtain ⟨a7, ea7, hyp⟩ := md_bd hyp
    obtain ⟨r7, er7, hyp⟩ := md_bd hyp
    refine gc_callv (r := (some (a))) (as := [ag_rf (x1), .int (x2)]) d_Rd_readProduct_70 ml_Rd_111 gw_442 rfl sl_Rd_readFactor ea7 (Nat.le_of_ble_eq_true rfl) (w_Rd_readFactor hC hkR (d := d) (by omega) er7) (fun v7 h7 q7 => ?_)
    obtain ⟨rfl, rfl⟩ := q7
    refine ag_if_eq d_Rd_readProduct_73 rfl (fun q => ?_) (fun q => ?_)
    · replace hyp := md_ifp q hyp
      exact ag_dr (ag_d1 rfl (ag_d1 rfl (ag_d1 rfl (ag_d1 rfl ag_d0)))) (w_Rd_readProduct_90 hC hkR hH hk10 hyp)
    · replace hyp := md_ifn q hyp
      refine gc_aload_n (r := (some (a))) d_Rd_readProduct_76 rfl ?_
      refine ag_iload d_Rd_readProduct_77 rfl ?_
      refine ag_ineg d_Rd_readProduct_79 ?_
      obtain ⟨a12, ea12, hyp⟩ := md_bd hyp
      obtain ⟨r12, er12, hyp⟩ := md_bd hyp
      refine gc_callv (r := (some (a))) (as := [.int (-(s0))]) d_Rd_readProduct_80 ml_Rd_105 gw_446 rfl sl_Rd_addStep ea12 (Nat.le_of_ble_eq_true rfl) (w_Rd_addStep hC (d := d) (by omega) er12) (fun v12 h12 q12 => ?_)
      obtain ⟨rfl, rfl⟩ := q12
      refine ag_if_eq d_Rd_readProduct_83 rfl (fun q => ?_) (fun q => ?_)
      · replace hyp := md_ifp q hyp
        exact ag_dr (ag_d1 rfl (ag_d1 rfl (ag_d1 rfl (ag_d1 rfl ag_d0)))) (w_Rd_readProduct_90 hC hkR hH hk10 hyp)
      · replace hyp := md_ifn q hyp
        refine ag_iconst d_Rd_readProduct_86 ?_
        refine ag_goto d_Rd_readProduct_87 rfl ?_
        exact ag_dr (ag_d1 rfl (ag_d1 rfl (ag_d1 rfl (ag_d1 rfl ag_d0)))) (w_Rd_readProduct_91 hC hkR hH hk10 hyp)
  · replace hyp := md_ifp q hyp
    refine ag_goto d_Rd_readProduct_64 rfl ?_
    exact ag_dr (ag_d1 rfl (ag_d1 rfl ag_d0)) (w_Rd_readProduct_98 hC hkR hH hyp)
theorem w_Rd_readProduct_10 {l : Launch} {G : ag_G} {d N Hk : Nat} {C : Nat × Nat} {a : Nat} {kR : Nat → Option Nat → Int32 → ag_H → Option ((Int32) × ag_H)} (hC : ag_cN G = C.1 ∧ ag_cS G = C.2) (hkR : ∀ (dk : Nat), Hk ≤ dk → ∀ (ua : Nat) (u0 : Option Nat) (u1 : Int32) (hh : ag_H) (res : (Int32) × ag_H), kR ua u0 u1 hh = some res → ag_Met gc_P l G m_Rd_readSum dk [.ref ua, ag_rf u0, .int u1] hh (fun v h' => v = some (.int res.1) ∧ h' = res.2)) (hH : Hk + 1 ≤ d) : ∀ (n : Nat) (res : (Int32) × ag_H) (x1 : Option Nat) (x2 : Int32) (x3 : Int32) (x4 : Int32) (h : ag_H) , fn_Rd_readProduct_10 N C kR a n x1 x2 x3 x4 h = some res → ag_ev gc_P l G m_Rd_readProduct (d + 1) (ag_ret gc_P G (fun v h' => v = some (.int res.1) ∧ h' = res.2)) 10 [(0, .ref a), (1, ag_rf (x1)), (2, .int (x2)), (3, .int (x3)), (4, .int (x4))] [] h := by
  intro n
  induction n with
  | zero =>
    intro res x1 x2 x3 x4 h hyp
    cases hyp
  | succ n ih =>
    intro res x1 x2 x3 x4 h hyp
    rw [fe_Rd_readProduct_10] at hyp
    have hc : ag_C1 [(0, .ref a), (1, ag_rf (x1)), (2, .int (x2)), (3, .int (x3)), (4, .int (x4))] := (ag_c1 rfl (ag_c1 (ag_cat_rf _) (ag_c1 rfl (ag_c1 rfl (ag_c1 rfl ag_c0)))))
    refine ag_iload_n d_Rd_readProduct_10 rfl ?_
    refine ag_if_eq d_Rd_readProduct_11 rfl (fun q => ?_) (fun q => ?_)
    · replace hyp := md_ifp q hyp
      exact ag_dr (ag_d1 rfl (ag_d1 rfl ag_d0)) (w_Rd_readProduct_98 hC hkR hH hyp)
    · replace hyp := md_ifn q hyp
      refine ag_iload d_Rd_readProduct_14 rfl ?_
      refine ag_bipush d_Rd_readProduct_16 ?_
      refine ag_icmp_ge d_Rd_readProduct_18 rfl (fun q => ?_) (fun q => ?_)
      · replace hyp := md_ifp q hyp
        exact ag_dr (ag_d1 rfl (ag_d1 rfl ag_d0)) (w_Rd_readProduct_98 hC hkR hH hyp)
      · replace hyp := md_ifn q hyp
        refine gc_aload_n (r := (x1)) d_Rd_readProduct_21 rfl ?_
        obtain ⟨a7, ea7, hyp⟩ := md_bd hyp
        obtain ⟨r7, er7, hyp⟩ := md_bd hyp
        refine gc_callv (r := (x1)) (as := []) d_Rd_readProduct_22 ml_Rd_114 gw_449 rfl sl_Ln_isAtLastStar ea7 (Nat.le_of_ble_eq_true rfl) (w_Ln_isAtLastStar hC (d := d) (by omega) er7) (fun v7 h7 q7 => ?_)
        obtain ⟨rfl, rfl⟩ := q7
        refine ag_if_ne d_Rd_readProduct_25 rfl (fun q => ?_) (fun q => ?_)
        · replace hyp := md_ifn q hyp
          exact ag_dr (ag_d1 rfl (ag_d1 rfl ag_d0)) (w_Rd_readProduct_98 hC hkR hH hyp)
        · replace hyp := md_ifp q hyp
          refine gc_aload_n (r := (x1)) d_Rd_readProduct_28 rfl ?_
          refine ag_bipush d_Rd_readProduct_29 ?_
          obtain ⟨a11, ea11, hyp⟩ := md_bd hyp
          obtain ⟨r11, er11, hyp⟩ := md_bd hyp
          refine gc_callv (r := (x1)) (as := [.int ((Int8.ofInt (42)).toInt32)]) d_Rd_readProduct_31 ml_Rd_44 gw_295 rfl sl_Ln_takes ea11 (Nat.le_of_ble_eq_true rfl) (w_Ln_takes hC (d := d) (by omega) er11) (fun v11 h11 q11 => ?_)
          obtain ⟨rfl, rfl⟩ := q11
          refine ag_if_eq d_Rd_readProduct_34 rfl (fun q => ?_) (fun q => ?_)
          · replace hyp := md_ifp q hyp
            refine gc_aload_n (r := (x1)) d_Rd_readProduct_42 rfl ?_
            refine ag_bipush d_Rd_readProduct_43 ?_
            obtain ⟨a15, ea15, hyp⟩ := md_bd hyp
            obtain ⟨r15, er15, hyp⟩ := md_bd hyp
            refine gc_callv (r := (x1)) (as := [.int ((Int8.ofInt (47)).toInt32)]) d_Rd_readProduct_45 ml_Rd_44 gw_295 rfl sl_Ln_takes ea15 (Nat.le_of_ble_eq_true rfl) (w_Ln_takes hC (d := d) (by omega) er15) (fun v15 h15 q15 => ?_)
            obtain ⟨rfl, rfl⟩ := q15
            refine ag_if_eq d_Rd_readProduct_48 rfl (fun q => ?_) (fun q => ?_)
            · replace hyp := md_ifp q hyp
              refine ag_iconst d_Rd_readProduct_56 ?_
              exact ag_dr (ag_d1 rfl (ag_d1 rfl (ag_d1 rfl (ag_d1 rfl (ag_d1 rfl ag_d0))))) (w_Rd_readProduct_57 hC hkR hH ih hyp)
            · replace hyp := md_ifn q hyp
              refine ag_bipush d_Rd_readProduct_51 ?_
              refine ag_goto d_Rd_readProduct_53 rfl ?_
              exact ag_dr (ag_d1 rfl (ag_d1 rfl (ag_d1 rfl (ag_d1 rfl (ag_d1 rfl ag_d0))))) (w_Rd_readProduct_57 hC hkR hH ih hyp)
          · replace hyp := md_ifn q hyp
            refine ag_bipush d_Rd_readProduct_37 ?_
            refine ag_goto d_Rd_readProduct_39 rfl ?_
            exact ag_dr (ag_d1 rfl (ag_d1 rfl (ag_d1 rfl (ag_d1 rfl (ag_d1 rfl ag_d0))))) (w_Rd_readProduct_57 hC hkR hH ih hyp)
theorem w_Rd_readProduct_0 {l : Launch} {G : ag_G} {d N Hk : Nat} {C : Nat × Nat} {a : Nat} {kR : Nat → Option Nat → Int32 → ag_H → Option ((Int32) × ag_H)} (hC : ag_cN G = C.1 ∧ ag_cS G = C.2) (hkR : ∀ (dk : Nat), Hk ≤ dk → ∀ (ua : Nat) (u0 : Option Nat) (u1 : Int32) (hh : ag_H) (res : (Int32) × ag_H), kR ua u0 u1 hh = some res → ag_Met gc_P l G m_Rd_readSum dk [.ref ua, ag_rf u0, .int u1] hh (fun v h' => v = some (.int res.1) ∧ h' = res.2)) (hH : Hk + 1 ≤ d) {x1 : Option Nat} {x2 : Int32} {h : ag_H} {res : (Int32) × ag_H} (hyp : fn_Rd_readProduct_0 N C kR a x1 x2 h = some res) : ag_ev gc_P l G m_Rd_readProduct (d + 1) (ag_ret gc_P G (fun v h' => v = some (.int res.1) ∧ h' = res.2)) 0 [(0, .ref a), (1, ag_rf (x1)), (2, .int (x2))] [] h := by
  unfold fn_Rd_readProduct_0 at hyp
  have hc : ag_C1 [(0, .ref a), (1, ag_rf (x1)), (2, .int (x2))] := (ag_c1 rfl (ag_c1 (ag_cat_rf _) (ag_c1 rfl ag_c0)))
  refine gc_aload_n (r := (some (a))) d_Rd_readProduct_0 rfl ?_
  refine gc_aload_n (r := (x1)) d_Rd_readProduct_1 rfl ?_
  refine ag_iload_n d_Rd_readProduct_2 rfl ?_
  obtain ⟨a4, ea4, hyp⟩ := md_bd hyp
  obtain ⟨r4, er4, hyp⟩ := md_bd hyp
  refine gc_callv (r := (some (a))) (as := [ag_rf (x1), .int (x2)]) d_Rd_readProduct_3 ml_Rd_111 gw_442 rfl sl_Rd_readFactor ea4 (Nat.le_of_ble_eq_true rfl) (w_Rd_readFactor hC hkR (d := d) (by omega) er4) (fun v4 h4 q4 => ?_)
  obtain ⟨rfl, rfl⟩ := q4
  refine gc_istore_n d_Rd_readProduct_6 (by decide) hc ?_
  replace hc := ag_cs (i := 3) (v := .int (r4.1)) hc rfl
  refine ag_iconst d_Rd_readProduct_7 ?_
  refine gc_istore d_Rd_readProduct_8 (by decide) hc ?_
  replace hc := ag_cs (i := 4) (v := .int (Int32.ofInt 0)) hc rfl
  exact ag_dr (ag_d1 rfl (ag_d1 rfl (ag_d1 rfl (ag_d1 rfl (ag_d1 rfl ag_d0))))) (w_Rd_readProduct_10 hC hkR hH N _ _ _ _ _ _ hyp)
theorem w_Rd_readProduct {l : Launch} {G : ag_G} {d N Hk : Nat} {C : Nat × Nat} {kR : Nat → Option Nat → Int32 → ag_H → Option ((Int32) × ag_H)} (hC : ag_cN G = C.1 ∧ ag_cS G = C.2) (hkR : ∀ (dk : Nat), Hk ≤ dk → ∀ (ua : Nat) (u0 : Option Nat) (u1 : Int32) (hh : ag_H) (res : (Int32) × ag_H), kR ua u0 u1 hh = some res → ag_Met gc_P l G m_Rd_readSum dk [.ref ua, ag_rf u0, .int u1] hh (fun v h' => v = some (.int res.1) ∧ h' = res.2)) (hH : Hk + 1 + 1 ≤ d) {a : Nat} {p1 : Option Nat} {p2 : Int32} {h : ag_H} {res : (Int32) × ag_H} (hyp : fn_Rd_readProduct N C kR a p1 p2 h = some res) : ag_Met gc_P l G m_Rd_readProduct d [.ref a, ag_rf (p1), .int (p2)] h (fun v h' => v = some (.int res.1) ∧ h' = res.2) := by
  obtain ⟨d, rfl, hG⟩ := md_dd hH
  exact ag_met0 (by decide) rfl (ag_v1 rfl (ag_v1 (ag_cat_rf _) (ag_v1 rfl ag_v0))) (Nat.le_of_ble_eq_true rfl) (ag_dr (ag_d1 rfl (ag_d1 rfl (ag_d1 rfl ag_d0))) (w_Rd_readProduct_0 hC hkR hG hyp))
def fn_Rd_readSum_91 (N : Nat) (C : Nat × Nat) (kR : Nat → Option Nat → Int32 → ag_H → Option ((Int32) × ag_H)) (a : Nat) (x3 : Int32) (h : ag_H) : Option ((Int32) × ag_H) := if md_01 (x3) = true then (some ((x3), h)) else none
def fn_Rd_readSum_84 (N : Nat) (C : Nat × Nat) (kR : Nat → Option Nat → Int32 → ag_H → Option ((Int32) × ag_H)) (a : Nat) (k10 : Option Nat → Int32 → Int32 → Int32 → ag_H → Option ((Int32) × ag_H)) (x1 : Option Nat) (x2 : Int32) (x4 : Int32) (s0 : Int32) (h : ag_H) : Option ((Int32) × ag_H) := k10 (x1) (x2) (s0) ((x4) + Int32.ofInt (1)) h
def fn_Rd_readSum_83 (N : Nat) (C : Nat × Nat) (kR : Nat → Option Nat → Int32 → ag_H → Option ((Int32) × ag_H)) (a : Nat) (k10 : Option Nat → Int32 → Int32 → Int32 → ag_H → Option ((Int32) × ag_H)) (x1 : Option Nat) (x2 : Int32) (x4 : Int32) (h : ag_H) : Option ((Int32) × ag_H) := fn_Rd_readSum_84 N C kR a k10 (x1) (x2) (x4) (Int32.ofInt 0) h
def fn_Rd_readSum_50 (N : Nat) (C : Nat × Nat) (kR : Nat → Option Nat → Int32 → ag_H → Option ((Int32) × ag_H)) (a : Nat) (k10 : Option Nat → Int32 → Int32 → Int32 → ag_H → Option ((Int32) × ag_H)) (x1 : Option Nat) (x2 : Int32) (x3 : Int32) (x4 : Int32) (s0 : Int32) (h : ag_H) : Option ((Int32) × ag_H) := if (s0) = (0) then (fn_Rd_readSum_91 N C kR a (x3) h) else ((ag_rc h (some (a)) 2).bind fun a7 => (fn_Rd_readProduct N C kR a7 (x1) (x2) h).bind fun r7 => if (r7.1) = (0) then (fn_Rd_readSum_83 N C kR a k10 (x1) (x2) (x4) r7.2) else ((ag_rc r7.2 (some (a)) 2).bind fun a12 => (fn_Rd_addStep N C a12 (-(s0)) r7.2).bind fun r12 => if (r12.1) = (0) then (fn_Rd_readSum_83 N C kR a k10 (x1) (x2) (x4) r12.2) else (fn_Rd_readSum_84 N C kR a k10 (x1) (x2) (x4) (Int32.ofInt 1) r12.2)))
def fn_Rd_readSum_10 (N : Nat) (C : Nat × Nat) (kR : Nat → Option Nat → Int32 → ag_H → Option ((Int32) × ag_H)) (a : Nat) : Nat → Option Nat → Int32 → Int32 → Int32 → ag_H → Option ((Int32) × ag_H)
  | 0, _, _, _, _, _ => none
  | n + 1, x1, x2, x3, x4, h => if (x3) = (0) then (fn_Rd_readSum_91 N C kR a (x3) h) else (if ((Int8.ofInt (40)).toInt32) ≤ (x4) then (fn_Rd_readSum_91 N C kR a (x3) h) else ((ag_rc h (x1) 1).bind fun a8 => (fn_Ln_takes N C a8 ((Int8.ofInt (43)).toInt32) h).bind fun r8 => if (r8.1) = (0) then ((ag_rc r8.2 (x1) 1).bind fun a12 => (fn_Ln_takes N C a12 ((Int8.ofInt (45)).toInt32) r8.2).bind fun r12 => if (r12.1) = (0) then (fn_Rd_readSum_50 N C kR a (fn_Rd_readSum_10 N C kR a n) (x1) (x2) (x3) (x4) (Int32.ofInt 0) r12.2) else (fn_Rd_readSum_50 N C kR a (fn_Rd_readSum_10 N C kR a n) (x1) (x2) (x3) (x4) ((Int8.ofInt (45)).toInt32) r12.2)) else (fn_Rd_readSum_50 N C kR a (fn_Rd_readSum_10 N C kR a n) (x1) (x2) (x3) (x4) ((Int8.ofInt (43)).toInt32) r8.2)))
theorem fe_Rd_readSum_10 (N : Nat) (C : Nat × Nat) (kR : Nat → Option Nat → Int32 → ag_H → Option ((Int32) × ag_H)) (a : Nat) (n : Nat) (x1 : Option Nat) (x2 : Int32) (x3 : Int32) (x4 : Int32) (h : ag_H) : fn_Rd_readSum_10 N C kR a (n + 1) x1 x2 x3 x4 h = (if (x3) = (0) then (fn_Rd_readSum_91 N C kR a (x3) h) else (if ((Int8.ofInt (40)).toInt32) ≤ (x4) then (fn_Rd_readSum_91 N C kR a (x3) h) else ((ag_rc h (x1) 1).bind fun a8 => (fn_Ln_takes N C a8 ((Int8.ofInt (43)).toInt32) h).bind fun r8 => if (r8.1) = (0) then ((ag_rc r8.2 (x1) 1).bind fun a12 => (fn_Ln_takes N C a12 ((Int8.ofInt (45)).toInt32) r8.2).bind fun r12 => if (r12.1) = (0) then (fn_Rd_readSum_50 N C kR a (fn_Rd_readSum_10 N C kR a n) (x1) (x2) (x3) (x4) (Int32.ofInt 0) r12.2) else (fn_Rd_readSum_50 N C kR a (fn_Rd_readSum_10 N C kR a n) (x1) (x2) (x3) (x4) ((Int8.ofInt (45)).toInt32) r12.2)) else (fn_Rd_readSum_50 N C kR a (fn_Rd_readSum_10 N C kR a n) (x1) (x2) (x3) (x4) ((Int8.ofInt (43)).toInt32) r8.2)))) := rfl
def fn_Rd_readSum_0 (N : Nat) (C : Nat × Nat) (kR : Nat → Option Nat → Int32 → ag_H → Option ((Int32) × ag_H)) (a : Nat) (x1 : Option Nat) (x2 : Int32) (h : ag_H) : Option ((Int32) × ag_H) := (ag_rc h (some (a)) 2).bind fun a4 => (fn_Rd_readProduct N C kR a4 (x1) (x2) h).bind fun r4 => fn_Rd_readSum_10 N C kR a N (x1) (x2) (r4.1) (Int32.ofInt 0) r4.2
def fn_Rd_readSum (N : Nat) (C : Nat × Nat) (kR : Nat → Option Nat → Int32 → ag_H → Option ((Int32) × ag_H)) (a : Nat) (p1 : Option Nat) (p2 : Int32) (h : ag_H) : Option ((Int32) × ag_H) := fn_Rd_readSum_0 N C kR a p1 p2 h
theorem w_Rd_readSum_91 {l : Launch} {G : ag_G} {d N Hk : Nat} {C : Nat × Nat} {a : Nat} {kR : Nat → Option Nat → Int32 → ag_H → Option ((Int32) × ag_H)} (hC : ag_cN G = C.1 ∧ ag_cS G = C.2) (hkR : ∀ (dk : Nat), Hk ≤ dk → ∀ (ua : Nat) (u0 : Option Nat) (u1 : Int32) (hh : ag_H) (res : (Int32) × ag_H), kR ua u0 u1 hh = some res → ag_Met gc_P l G m_Rd_readSum dk [.ref ua, ag_rf u0, .int u1] hh (fun v h' => v = some (.int res.1) ∧ h' = res.2)) (hH : Hk + 2 ≤ d) {x3 : Int32} {h : ag_H} {res : (Int32) × ag_H} (hyp : fn_Rd_readSum_91 N C kR a x3 h = some res) : ag_ev gc_P l G m_Rd_readSum (d + 1) (ag_ret gc_P G (fun v h' => v = some (.int res.1) ∧ h' = res.2)) 91 [(0, .ref a), (3, .int (x3))] [] h := by
  unfold fn_Rd_readSum_91 at hyp
  have hc : ag_C1 [(0, .ref a), (3, .int (x3))] := (ag_c1 rfl (ag_c1 rfl ag_c0))
  refine ag_iload_n d_Rd_readSum_91 rfl ?_
  obtain ⟨q2, hyp⟩ := md_ifs hyp
  cases hyp
  exact ag_iret d_Rd_readSum_92 rfl (md_01n q2) ⟨rfl, rfl⟩
theorem w_Rd_readSum_84 {l : Launch} {G : ag_G} {d N Hk : Nat} {C : Nat × Nat} {a : Nat} {kR : Nat → Option Nat → Int32 → ag_H → Option ((Int32) × ag_H)} (hC : ag_cN G = C.1 ∧ ag_cS G = C.2) (hkR : ∀ (dk : Nat), Hk ≤ dk → ∀ (ua : Nat) (u0 : Option Nat) (u1 : Int32) (hh : ag_H) (res : (Int32) × ag_H), kR ua u0 u1 hh = some res → ag_Met gc_P l G m_Rd_readSum dk [.ref ua, ag_rf u0, .int u1] hh (fun v h' => v = some (.int res.1) ∧ h' = res.2)) (hH : Hk + 2 ≤ d) {k10 : Option Nat → Int32 → Int32 → Int32 → ag_H → Option ((Int32) × ag_H)} (hk10 : ∀ (res : (Int32) × ag_H) (y1 : Option Nat) (y2 : Int32) (y3 : Int32) (y4 : Int32) (hh : ag_H), k10 y1 y2 y3 y4 hh = some res → ag_ev gc_P l G m_Rd_readSum (d + 1) (ag_ret gc_P G (fun v h' => v = some (.int res.1) ∧ h' = res.2)) 10 [(0, .ref a), (1, ag_rf (y1)), (2, .int (y2)), (3, .int (y3)), (4, .int (y4))] [] hh) {x1 : Option Nat} {x2 : Int32} {x4 : Int32} {s0 : Int32} {h : ag_H} {res : (Int32) × ag_H} (hyp : fn_Rd_readSum_84 N C kR a k10 x1 x2 x4 s0 h = some res) : ag_ev gc_P l G m_Rd_readSum (d + 1) (ag_ret gc_P G (fun v h' => v = some (.int res.1) ∧ h' = res.2)) 84 [(0, .ref a), (1, ag_rf (x1)), (2, .int (x2)), (4, .int (x4))] [.int (s0)] h := by
  unfold fn_Rd_readSum_84 at hyp
  have hc : ag_C1 [(0, .ref a), (1, ag_rf (x1)), (2, .int (x2)), (4, .int (x4))] := (ag_c1 rfl (ag_c1 (ag_cat_rf _) (ag_c1 rfl (ag_c1 rfl ag_c0))))
  refine gc_istore_n d_Rd_readSum_84 (by decide) hc ?_
  replace hc := ag_cs (i := 3) (v := .int (s0)) hc rfl
  refine gc_iinc d_Rd_readSum_85 rfl (by decide) hc ?_
  replace hc := ag_cs (i := 4) (v := .int ((x4) + Int32.ofInt (1))) hc rfl
  refine ag_goto d_Rd_readSum_88 rfl ?_
  exact ag_dr (ag_d1 rfl (ag_d1 rfl (ag_d1 rfl (ag_d1 rfl (ag_d1 rfl ag_d0))))) (hk10 _ _ _ _ _ _ hyp)
theorem w_Rd_readSum_83 {l : Launch} {G : ag_G} {d N Hk : Nat} {C : Nat × Nat} {a : Nat} {kR : Nat → Option Nat → Int32 → ag_H → Option ((Int32) × ag_H)} (hC : ag_cN G = C.1 ∧ ag_cS G = C.2) (hkR : ∀ (dk : Nat), Hk ≤ dk → ∀ (ua : Nat) (u0 : Option Nat) (u1 : Int32) (hh : ag_H) (res : (Int32) × ag_H), kR ua u0 u1 hh = some res → ag_Met gc_P l G m_Rd_readSum dk [.ref ua, ag_rf u0, .int u1] hh (fun v h' => v = some (.int res.1) ∧ h' = res.2)) (hH : Hk + 2 ≤ d) {k10 : Option Nat → Int32 → Int32 → Int32 → ag_H → Option ((Int32) × ag_H)} (hk10 : ∀ (res : (Int32) × ag_H) (y1 : Option Nat) (y2 : Int32) (y3 : Int32) (y4 : Int32) (hh : ag_H), k10 y1 y2 y3 y4 hh = some res → ag_ev gc_P l G m_Rd_readSum (d + 1) (ag_ret gc_P G (fun v h' => v = some (.int res.1) ∧ h' = res.2)) 10 [(0, .ref a), (1, ag_rf (y1)), (2, .int (y2)), (3, .int (y3)), (4, .int (y4))] [] hh) {x1 : Option Nat} {x2 : Int32} {x4 : Int32} {h : ag_H} {res : (Int32) × ag_H} (hyp : fn_Rd_readSum_83 N C kR a k10 x1 x2 x4 h = some res) : ag_ev gc_P l G m_Rd_readSum (d + 1) (ag_ret gc_P G (fun v h' => v = some (.int res.1) ∧ h' = res.2)) 83 [(0, .ref a), (1, ag_rf (x1)), (2, .int (x2)), (4, .int (x4))] [] h := by
  unfold fn_Rd_readSum_83 at hyp
  have hc : ag_C1 [(0, .ref a), (1, ag_rf (x1)), (2, .int (x2)), (4, .int (x4))] := (ag_c1 rfl (ag_c1 (ag_cat_rf _) (ag_c1 rfl (ag_c1 rfl ag_c0))))
  refine ag_iconst d_Rd_readSum_83 ?_
  exact ag_dr (ag_d1 rfl (ag_d1 rfl (ag_d1 rfl (ag_d1 rfl ag_d0)))) (w_Rd_readSum_84 hC hkR hH hk10 hyp)
theorem w_Rd_readSum_50 {l : Launch} {G : ag_G} {d N Hk : Nat} {C : Nat × Nat} {a : Nat} {kR : Nat → Option Nat → Int32 → ag_H → Option ((Int32) × ag_H)} (hC : ag_cN G = C.1 ∧ ag_cS G = C.2) (hkR : ∀ (dk : Nat), Hk ≤ dk → ∀ (ua : Nat) (u0 : Option Nat) (u1 : Int32) (hh : ag_H) (res : (Int32) × ag_H), kR ua u0 u1 hh = some res → ag_Met gc_P l G m_Rd_readSum dk [.ref ua, ag_rf u0, .int u1] hh (fun v h' => v = some (.int res.1) ∧ h' = res.2)) (hH : Hk + 2 ≤ d) {k10 : Option Nat → Int32 → Int32 → Int32 → ag_H → Option ((Int32) × ag_H)} (hk10 : ∀ (res : (Int32) × ag_H) (y1 : Option Nat) (y2 : Int32) (y3 : Int32) (y4 : Int32) (hh : ag_H), k10 y1 y2 y3 y4 hh = some res → ag_ev gc_P l G m_Rd_readSum (d + 1) (ag_ret gc_P G (fun v h' => v = some (.int res.1) ∧ h' = res.2)) 10 [(0, .ref a), (1, ag_rf (y1)), (2, .int (y2)), (3, .int (y3)), (4, .int (y4))] [] hh) {x1 : Option Nat} {x2 : Int32} {x3 : Int32} {x4 : Int32} {s0 : Int32} {h : ag_H} {res : (Int32) × ag_H} (hyp : fn_Rd_readSum_50 N C kR a k10 x1 x2 x3 x4 s0 h = some res) : ag_ev gc_P l G m_Rd_readSum (d + 1) (ag_ret gc_P G (fun v h' => v = some (.int res.1) ∧ h' = res.2)) 50 [(0, .ref a), (1, ag_rf (x1)), (2, .int (x2)), (3, .int (x3)), (4, .int (x4))] [.int (s0)] h := by
  unfold fn_Rd_readSum_50 at hyp
  have hc : ag_C1 [(0, .ref a), (1, ag_rf (x1)), (2, .int (x2)), (3, .int (x3)), (4, .int (x4))] := (ag_c1 rfl (ag_c1 (ag_cat_rf _) (ag_c1 rfl (ag_c1 rfl (ag_c1 rfl ag_c0)))))
  refine gc_istore d_Rd_readSum_50 (by decide) hc ?_
  replace hc := ag_cs (i := 5) (v := .int (s0)) hc rfl
  refine ag_iload d_Rd_readSum_52 rfl ?_
  refine ag_if_ne d_Rd_readSum_54 rfl (fun q => ?_) (fun q => ?_)
  · replace hyp := md_ifn q hyp
    refine gc_aload_n (r := (some (a))) d_Rd_readSum_60 rfl ?_
    refine gc_aload_n (r := (x1)) d_Rd_readSum_61 rfl ?_
    refine ag_iload_n d_Rd_readSum_62 rfl ?_
    obtain ⟨a7, ea7, hyp⟩ := md_bd hyp
    obtain ⟨r7, er7, hyp⟩ := md_bd hyp
    refine gc_callv (r := (some (a))) (as := [ag_rf (x1), .int (x2)]) d_Rd_readSum_63 ml_Rd_108 gw_438 rfl sl_Rd_readProduct ea7 (Nat.le_of_ble_eq_true rfl) (w_Rd_readProduct hC hkR (d := d) (by omega) er7) (fun v7 h7 q7 => ?_)
    obtain ⟨rfl, rfl⟩ := q7
    refine ag_if_eq d_Rd_readSum_66 rfl (fun q => ?_) (fun q => ?_)
    · replace hyp := md_ifp q hyp
      exact ag_dr (ag_d1 rfl (ag_d1 rfl (ag_d1 rfl (ag_d1 rfl ag_d0)))) (w_Rd_readSum_83 hC hkR hH hk10 hyp)
    · replace hyp := md_ifn q hyp
      refine gc_aload_n (r := (some (a))) d_Rd_readSum_69 rfl ?_
      refine ag_iload d_Rd_readSum_70 rfl ?_
      refine ag_ineg d_Rd_readSum_72 ?_
      obtain ⟨a12, ea12, hyp⟩ := md_bd hyp
      obtain ⟨r12, er12, hyp⟩ := md_bd hyp
      refine gc_callv (r := (some (a))) (as := [.int (-(s0))]) d_Rd_readSum_73 ml_Rd_105 gw_446 rfl sl_Rd_addStep ea12 (Nat.le_of_ble_eq_true rfl) (w_Rd_addStep hC (d := d) (by omega) er12) (fun v12 h12 q12 => ?_)
      obtain ⟨rfl, rfl⟩ := q12
      refine ag_if_eq d_Rd_readSum_76 rfl (fun q => ?_) (fun q => ?_)
      · replace hyp := md_ifp q hyp
        exact ag_dr (ag_d1 rfl (ag_d1 rfl (ag_d1 rfl (ag_d1 rfl ag_d0)))) (w_Rd_readSum_83 hC hkR hH hk10 hyp)
      · replace hyp := md_ifn q hyp
        refine ag_iconst d_Rd_readSum_79 ?_
        refine ag_goto d_Rd_readSum_80 rfl ?_
        exact ag_dr (ag_d1 rfl (ag_d1 rfl (ag_d1 rfl (ag_d1 rfl ag_d0)))) (w_Rd_readSum_84 hC hkR hH hk10 hyp)
  · replace hyp := md_ifp q hyp
    refine ag_goto d_Rd_readSum_57 rfl ?_
    exact ag_dr (ag_d1 rfl (ag_d1 rfl ag_d0)) (w_Rd_readSum_91 hC hkR hH hyp)
theorem w_Rd_readSum_10 {l : Launch} {G : ag_G} {d N Hk : Nat} {C : Nat × Nat} {a : Nat} {kR : Nat → Option Nat → Int32 → ag_H → Option ((Int32) × ag_H)} (hC : ag_cN G = C.1 ∧ ag_cS G = C.2) (hkR : ∀ (dk : Nat), Hk ≤ dk → ∀ (ua : Nat) (u0 : Option Nat) (u1 : Int32) (hh : ag_H) (res : (Int32) × ag_H), kR ua u0 u1 hh = some res → ag_Met gc_P l G m_Rd_readSum dk [.ref ua, ag_rf u0, .int u1] hh (fun v h' => v = some (.int res.1) ∧ h' = res.2)) (hH : Hk + 2 ≤ d) : ∀ (n : Nat) (res : (Int32) × ag_H) (x1 : Option Nat) (x2 : Int32) (x3 : Int32) (x4 : Int32) (h : ag_H) , fn_Rd_readSum_10 N C kR a n x1 x2 x3 x4 h = some res → ag_ev gc_P l G m_Rd_readSum (d + 1) (ag_ret gc_P G (fun v h' => v = some (.int res.1) ∧ h' = res.2)) 10 [(0, .ref a), (1, ag_rf (x1)), (2, .int (x2)), (3, .int (x3)), (4, .int (x4))] [] h := by
  intro n
  induction n with
  | zero =>
    intro res x1 x2 x3 x4 h hyp
    cases hyp
  | succ n ih =>
    intro res x1 x2 x3 x4 h hyp
    rw [fe_Rd_readSum_10] at hyp
    have hc : ag_C1 [(0, .ref a), (1, ag_rf (x1)), (2, .int (x2)), (3, .int (x3)), (4, .int (x4))] := (ag_c1 rfl (ag_c1 (ag_cat_rf _) (ag_c1 rfl (ag_c1 rfl (ag_c1 rfl ag_c0)))))
    refine ag_iload_n d_Rd_readSum_10 rfl ?_
    refine ag_if_eq d_Rd_readSum_11 rfl (fun q => ?_) (fun q => ?_)
    · replace hyp := md_ifp q hyp
      exact ag_dr (ag_d1 rfl (ag_d1 rfl ag_d0)) (w_Rd_readSum_91 hC hkR hH hyp)
    · replace hyp := md_ifn q hyp
      refine ag_iload d_Rd_readSum_14 rfl ?_
      refine ag_bipush d_Rd_readSum_16 ?_
      refine ag_icmp_ge d_Rd_readSum_18 rfl (fun q => ?_) (fun q => ?_)
      · replace hyp := md_ifp q hyp
        exact ag_dr (ag_d1 rfl (ag_d1 rfl ag_d0)) (w_Rd_readSum_91 hC hkR hH hyp)
      · replace hyp := md_ifn q hyp
        refine gc_aload_n (r := (x1)) d_Rd_readSum_21 rfl ?_
        refine ag_bipush d_Rd_readSum_22 ?_
        obtain ⟨a8, ea8, hyp⟩ := md_bd hyp
        obtain ⟨r8, er8, hyp⟩ := md_bd hyp
        refine gc_callv (r := (x1)) (as := [.int ((Int8.ofInt (43)).toInt32)]) d_Rd_readSum_24 ml_Rd_44 gw_295 rfl sl_Ln_takes ea8 (Nat.le_of_ble_eq_true rfl) (w_Ln_takes hC (d := d) (by omega) er8) (fun v8 h8 q8 => ?_)
        obtain ⟨rfl, rfl⟩ := q8
        refine ag_if_eq d_Rd_readSum_27 rfl (fun q => ?_) (fun q => ?_)
        · replace hyp := md_ifp q hyp
          refine gc_aload_n (r := (x1)) d_Rd_readSum_35 rfl ?_
          refine ag_bipush d_Rd_readSum_36 ?_
          obtain ⟨a12, ea12, hyp⟩ := md_bd hyp
          obtain ⟨r12, er12, hyp⟩ := md_bd hyp
          refine gc_callv (r := (x1)) (as := [.int ((Int8.ofInt (45)).toInt32)]) d_Rd_readSum_38 ml_Rd_44 gw_295 rfl sl_Ln_takes ea12 (Nat.le_of_ble_eq_true rfl) (w_Ln_takes hC (d := d) (by omega) er12) (fun v12 h12 q12 => ?_)
          obtain ⟨rfl, rfl⟩ := q12
          refine ag_if_eq d_Rd_readSum_41 rfl (fun q => ?_) (fun q => ?_)
          · replace hyp := md_ifp q hyp
            refine ag_iconst d_Rd_readSum_49 ?_
            exact ag_dr (ag_d1 rfl (ag_d1 rfl (ag_d1 rfl (ag_d1 rfl (ag_d1 rfl ag_d0))))) (w_Rd_readSum_50 hC hkR hH ih hyp)
          · replace hyp := md_ifn q hyp
            refine ag_bipush d_Rd_readSum_44 ?_
            refine ag_goto d_Rd_readSum_46 rfl ?_
            exact ag_dr (ag_d1 rfl (ag_d1 rfl (ag_d1 rfl (ag_d1 rfl (ag_d1 rfl ag_d0))))) (w_Rd_readSum_50 hC hkR hH ih hyp)
        · replace hyp := md_ifn q hyp
          refine ag_bipush d_Rd_readSum_30 ?_
          refine ag_goto d_Rd_readSum_32 rfl ?_
          exact ag_dr (ag_d1 rfl (ag_d1 rfl (ag_d1 rfl (ag_d1 rfl (ag_d1 rfl ag_d0))))) (w_Rd_readSum_50 hC hkR hH ih hyp)
theorem w_Rd_readSum_0 {l : Launch} {G : ag_G} {d N Hk : Nat} {C : Nat × Nat} {a : Nat} {kR : Nat → Option Nat → Int32 → ag_H → Option ((Int32) × ag_H)} (hC : ag_cN G = C.1 ∧ ag_cS G = C.2) (hkR : ∀ (dk : Nat), Hk ≤ dk → ∀ (ua : Nat) (u0 : Option Nat) (u1 : Int32) (hh : ag_H) (res : (Int32) × ag_H), kR ua u0 u1 hh = some res → ag_Met gc_P l G m_Rd_readSum dk [.ref ua, ag_rf u0, .int u1] hh (fun v h' => v = some (.int res.1) ∧ h' = res.2)) (hH : Hk + 2 ≤ d) {x1 : Option Nat} {x2 : Int32} {h : ag_H} {res : (Int32) × ag_H} (hyp : fn_Rd_readSum_0 N C kR a x1 x2 h = some res) : ag_ev gc_P l G m_Rd_readSum (d + 1) (ag_ret gc_P G (fun v h' => v = some (.int res.1) ∧ h' = res.2)) 0 [(0, .ref a), (1, ag_rf (x1)), (2, .int (x2))] [] h := by
  unfold fn_Rd_readSum_0 at hyp
  have hc : ag_C1 [(0, .ref a), (1, ag_rf (x1)), (2, .int (x2))] := (ag_c1 rfl (ag_c1 (ag_cat_rf _) (ag_c1 rfl ag_c0)))
  refine gc_aload_n (r := (some (a))) d_Rd_readSum_0 rfl ?_
  refine gc_aload_n (r := (x1)) d_Rd_readSum_1 rfl ?_
  refine ag_iload_n d_Rd_readSum_2 rfl ?_
  obtain ⟨a4, ea4, hyp⟩ := md_bd hyp
  obtain ⟨r4, er4, hyp⟩ := md_bd hyp
  refine gc_callv (r := (some (a))) (as := [ag_rf (x1), .int (x2)]) d_Rd_readSum_3 ml_Rd_108 gw_438 rfl sl_Rd_readProduct ea4 (Nat.le_of_ble_eq_true rfl) (w_Rd_readProduct hC hkR (d := d) (by omega) er4) (fun v4 h4 q4 => ?_)
  obtain ⟨rfl, rfl⟩ := q4
  refine gc_istore_n d_Rd_readSum_6 (by decide) hc ?_
  replace hc := ag_cs (i := 3) (v := .int (r4.1)) hc rfl
  refine ag_iconst d_Rd_readSum_7 ?_
  refine gc_istore d_Rd_readSum_8 (by decide) hc ?_
  replace hc := ag_cs (i := 4) (v := .int (Int32.ofInt 0)) hc rfl
  exact ag_dr (ag_d1 rfl (ag_d1 rfl (ag_d1 rfl (ag_d1 rfl (ag_d1 rfl ag_d0))))) (w_Rd_readSum_10 hC hkR hH N _ _ _ _ _ _ hyp)
theorem w_Rd_readSum {l : Launch} {G : ag_G} {d N Hk : Nat} {C : Nat × Nat} {kR : Nat → Option Nat → Int32 → ag_H → Option ((Int32) × ag_H)} (hC : ag_cN G = C.1 ∧ ag_cS G = C.2) (hkR : ∀ (dk : Nat), Hk ≤ dk → ∀ (ua : Nat) (u0 : Option Nat) (u1 : Int32) (hh : ag_H) (res : (Int32) × ag_H), kR ua u0 u1 hh = some res → ag_Met gc_P l G m_Rd_readSum dk [.ref ua, ag_rf u0, .int u1] hh (fun v h' => v = some (.int res.1) ∧ h' = res.2)) (hH : Hk + 2 + 1 ≤ d) {a : Nat} {p1 : Option Nat} {p2 : Int32} {h : ag_H} {res : (Int32) × ag_H} (hyp : fn_Rd_readSum N C kR a p1 p2 h = some res) : ag_Met gc_P l G m_Rd_readSum d [.ref a, ag_rf (p1), .int (p2)] h (fun v h' => v = some (.int res.1) ∧ h' = res.2) := by
  obtain ⟨d, rfl, hG⟩ := md_dd hH
  exact ag_met0 (by decide) rfl (ag_v1 rfl (ag_v1 (ag_cat_rf _) (ag_v1 rfl ag_v0))) (Nat.le_of_ble_eq_true rfl) (ag_dr (ag_d1 rfl (ag_d1 rfl (ag_d1 rfl ag_d0))) (w_Rd_readSum_0 hC hkR hG hyp))
def fn_Rd_readSumR (N : Nat) (C : Nat × Nat) : Nat → Nat → Option Nat → Int32 → ag_H → Option ((Int32) × ag_H)
  | 0, _, _, _, _ => none
  | n + 1, a, p1, p2, h => fn_Rd_readSum N C (fn_Rd_readSumR N C n) a p1 p2 h
theorem w_Rd_readSumR {l : Launch} {G : ag_G} {N : Nat} {C : Nat × Nat} (hC : ag_cN G = C.1 ∧ ag_cS G = C.2) : ∀ (n : Nat) (d : Nat), 3 * n ≤ d → ∀ (a : Nat) (p1 : Option Nat) (p2 : Int32) (h : ag_H) (res : (Int32) × ag_H), fn_Rd_readSumR N C n a p1 p2 h = some res → ag_Met gc_P l G m_Rd_readSum d [.ref a, ag_rf (p1), .int (p2)] h (fun v h' => v = some (.int res.1) ∧ h' = res.2)
  | 0, _, _, _, _, _, _, _, hyp => by cases hyp
  | n + 1, d, hd, a, p1, p2, h, res, hyp => w_Rd_readSum (Hk := 3 * n) hC (fun dk hk u0 u1 u2 u3 r hy => w_Rd_readSumR hC n dk hk u0 u1 u2 u3 r hy) (by omega) hyp
def fn_GC_isComparison_29 (N : Nat) (C : Nat × Nat) (s0 : Int32) (h : ag_H) : Option ((Int32) × ag_H) := if md_01 (s0) = true then (some ((s0), h)) else none
def fn_GC_isComparison_24 (N : Nat) (C : Nat × Nat) (h : ag_H) : Option ((Int32) × ag_H) := fn_GC_isComparison_29 N C (Int32.ofInt 1) h
def fn_GC_isComparison_0 (N : Nat) (C : Nat × Nat) (x0 : Int32) (h : ag_H) : Option ((Int32) × ag_H) := if (x0) = ((Int8.ofInt (60)).toInt32) then (fn_GC_isComparison_24 N C  h) else (if (x0) = ((Int8.ofInt (62)).toInt32) then (fn_GC_isComparison_24 N C  h) else (if (x0) = ((Int8.ofInt (61)).toInt32) then (fn_GC_isComparison_24 N C  h) else (if (x0) = ((Int8.ofInt (35)).toInt32) then (fn_GC_isComparison_24 N C  h) else (fn_GC_isComparison_29 N C (Int32.ofInt 0) h))))
def fn_GC_isComparison (N : Nat) (C : Nat × Nat) (p0 : Int32) (h : ag_H) : Option ((Int32) × ag_H) := fn_GC_isComparison_0 N C p0 h
theorem w_GC_isComparison_29 {l : Launch} {G : ag_G} {d N : Nat} {C : Nat × Nat} (hC : ag_cN G = C.1 ∧ ag_cS G = C.2) {s0 : Int32} {h : ag_H} {res : (Int32) × ag_H} (hyp : fn_GC_isComparison_29 N C s0 h = some res) : ag_ev gc_P l G m_GC_isComparison (d) (ag_ret gc_P G (fun v h' => v = some (.int res.1) ∧ h' = res.2)) 29 [] [.int (s0)] h := by
  unfold fn_GC_isComparison_29 at hyp
  have hc : ag_C1 [] := ag_c0
  obtain ⟨q1, hyp⟩ := md_ifs hyp
  cases hyp
  exact ag_iret d_GC_isComparison_29 rfl (md_01n q1) ⟨rfl, rfl⟩
theorem w_GC_isComparison_24 {l : Launch} {G : ag_G} {d N : Nat} {C : Nat × Nat} (hC : ag_cN G = C.1 ∧ ag_cS G = C.2) {h : ag_H} {res : (Int32) × ag_H} (hyp : fn_GC_isComparison_24 N C h = some res) : ag_ev gc_P l G m_GC_isComparison (d) (ag_ret gc_P G (fun v h' => v = some (.int res.1) ∧ h' = res.2)) 24 [] [] h := by
  unfold fn_GC_isComparison_24 at hyp
  have hc : ag_C1 [] := ag_c0
  refine ag_iconst d_GC_isComparison_24 ?_
  refine ag_goto d_GC_isComparison_25 rfl ?_
  exact ag_dr ag_d0 (w_GC_isComparison_29 hC hyp)
theorem w_GC_isComparison_0 {l : Launch} {G : ag_G} {d N : Nat} {C : Nat × Nat} (hC : ag_cN G = C.1 ∧ ag_cS G = C.2) {x0 : Int32} {h : ag_H} {res : (Int32) × ag_H} (hyp : fn_GC_isComparison_0 N C x0 h = some res) : ag_ev gc_P l G m_GC_isComparison (d) (ag_ret gc_P G (fun v h' => v = some (.int res.1) ∧ h' = res.2)) 0 [(0, .int (x0))] [] h := by
  unfold fn_GC_isComparison_0 at hyp
  have hc : ag_C1 [(0, .int (x0))] := (ag_c1 rfl ag_c0)
  refine ag_iload_n d_GC_isComparison_0 rfl ?_
  refine ag_bipush d_GC_isComparison_1 ?_
  refine ag_icmp_eq d_GC_isComparison_3 rfl (fun q => ?_) (fun q => ?_)
  · replace hyp := md_ifp q hyp
    exact ag_dr ag_d0 (w_GC_isComparison_24 hC hyp)
  · replace hyp := md_ifn q hyp
    refine ag_iload_n d_GC_isComparison_6 rfl ?_
    refine ag_bipush d_GC_isComparison_7 ?_
    refine ag_icmp_eq d_GC_isComparison_9 rfl (fun q => ?_) (fun q => ?_)
    · replace hyp := md_ifp q hyp
      exact ag_dr ag_d0 (w_GC_isComparison_24 hC hyp)
    · replace hyp := md_ifn q hyp
      refine ag_iload_n d_GC_isComparison_12 rfl ?_
      refine ag_bipush d_GC_isComparison_13 ?_
      refine ag_icmp_eq d_GC_isComparison_15 rfl (fun q => ?_) (fun q => ?_)
      · replace hyp := md_ifp q hyp
        exact ag_dr ag_d0 (w_GC_isComparison_24 hC hyp)
      · replace hyp := md_ifn q hyp
        refine ag_iload_n d_GC_isComparison_18 rfl ?_
        refine ag_bipush d_GC_isComparison_19 ?_
        refine ag_icmp_ne d_GC_isComparison_21 rfl (fun q => ?_) (fun q => ?_)
        · replace hyp := md_ifn q hyp
          refine ag_iconst d_GC_isComparison_28 ?_
          exact ag_dr ag_d0 (w_GC_isComparison_29 hC hyp)
        · replace hyp := md_ifp q hyp
          exact ag_dr ag_d0 (w_GC_isComparison_24 hC hyp)
theorem w_GC_isComparison {l : Launch} {G : ag_G} {d N : Nat} {C : Nat × Nat} (hC : ag_cN G = C.1 ∧ ag_cS G = C.2) (hH : 0 ≤ d) {p0 : Int32} {h : ag_H} {res : (Int32) × ag_H} (hyp : fn_GC_isComparison N C p0 h = some res) : ag_Met gc_P l G m_GC_isComparison d [.int (p0)] h (fun v h' => v = some (.int res.1) ∧ h' = res.2) := by
  exact ag_met (by decide) rfl (Nat.le_of_ble_eq_true rfl) (ag_dr (ag_d1 rfl ag_d0) (w_GC_isComparison_0 hC hyp))
def fn_Rd_readComparison_58 (N : Nat) (C : Nat × Nat) (a : Nat) (s0 : Int32) (h : ag_H) : Option ((Int32) × ag_H) := if md_01 (s0) = true then (some ((s0), h)) else none
def fn_Rd_readComparison_57 (N : Nat) (C : Nat × Nat) (a : Nat) (h : ag_H) : Option ((Int32) × ag_H) := fn_Rd_readComparison_58 N C a (Int32.ofInt 0) h
def fn_Rd_readComparison_0 (N : Nat) (C : Nat × Nat) (a : Nat) (x1 : Option Nat) (h : ag_H) : Option ((Int32) × ag_H) := (ag_rc h (some (a)) 2).bind fun a4 => (fn_Rd_readSumR N C 6 a4 (x1) (Int32.ofInt 0) h).bind fun r4 => if (r4.1) = (0) then (if md_01 (Int32.ofInt 0) = true then (some ((Int32.ofInt 0), r4.2)) else none) else ((ag_rc r4.2 (x1) 1).bind fun a7 => (fn_Ln_sign N C a7  r4.2).bind fun r7 => (fn_GC_isComparison N C (r7.1) r7.2).bind fun r10 => if (r10.1) = (0) then (if md_01 (Int32.ofInt 0) = true then (some ((Int32.ofInt 0), r10.2)) else none) else ((ag_gi r10.2 (x1) 1 2).bind fun g14 => (ag_pf r10.2 (ag_rf (x1)) 1 2 .int (.int ((g14) + (Int32.ofInt 1)))).bind fun h17 => (ag_rc h17 (some (a)) 2).bind fun a21 => (fn_Rd_readSumR N C 6 a21 (x1) (Int32.ofInt 0) h17).bind fun r21 => if (r21.1) = (0) then (fn_Rd_readComparison_57 N C a  r21.2) else ((ag_rc r21.2 (some (a)) 2).bind fun a26 => (fn_Rd_addStep N C a26 (-(r7.1)) r21.2).bind fun r26 => if (r26.1) = (0) then (fn_Rd_readComparison_57 N C a  r26.2) else (fn_Rd_readComparison_58 N C a (Int32.ofInt 1) r26.2))))
def fn_Rd_readComparison (N : Nat) (C : Nat × Nat) (a : Nat) (p1 : Option Nat) (h : ag_H) : Option ((Int32) × ag_H) := fn_Rd_readComparison_0 N C a p1 h
theorem w_Rd_readComparison_58 {l : Launch} {G : ag_G} {d N : Nat} {C : Nat × Nat} {a : Nat} (hC : ag_cN G = C.1 ∧ ag_cS G = C.2) (hH : 18 ≤ d) {s0 : Int32} {h : ag_H} {res : (Int32) × ag_H} (hyp : fn_Rd_readComparison_58 N C a s0 h = some res) : ag_ev gc_P l G m_Rd_readComparison (d + 1) (ag_ret gc_P G (fun v h' => v = some (.int res.1) ∧ h' = res.2)) 58 [(0, .ref a)] [.int (s0)] h := by
  unfold fn_Rd_readComparison_58 at hyp
  have hc : ag_C1 [(0, .ref a)] := (ag_c1 rfl ag_c0)
  obtain ⟨q1, hyp⟩ := md_ifs hyp
  cases hyp
  exact ag_iret d_Rd_readComparison_58 rfl (md_01n q1) ⟨rfl, rfl⟩
theorem w_Rd_readComparison_57 {l : Launch} {G : ag_G} {d N : Nat} {C : Nat × Nat} {a : Nat} (hC : ag_cN G = C.1 ∧ ag_cS G = C.2) (hH : 18 ≤ d) {h : ag_H} {res : (Int32) × ag_H} (hyp : fn_Rd_readComparison_57 N C a h = some res) : ag_ev gc_P l G m_Rd_readComparison (d + 1) (ag_ret gc_P G (fun v h' => v = some (.int res.1) ∧ h' = res.2)) 57 [(0, .ref a)] [] h := by
  unfold fn_Rd_readComparison_57 at hyp
  have hc : ag_C1 [(0, .ref a)] := (ag_c1 rfl ag_c0)
  refine ag_iconst d_Rd_readComparison_57 ?_
  exact ag_dr (ag_d1 rfl ag_d0) (w_Rd_readComparison_58 hC hH hyp)
theorem w_Rd_readComparison_0 {l : Launch} {G : ag_G} {d N : Nat} {C : Nat × Nat} {a : Nat} (hC : ag_cN G = C.1 ∧ ag_cS G = C.2) (hH : 18 ≤ d) {x1 : Option Nat} {h : ag_H} {res : (Int32) × ag_H} (hyp : fn_Rd_readComparison_0 N C a x1 h = some res) : ag_ev gc_P l G m_Rd_readComparison (d + 1) (ag_ret gc_P G (fun v h' => v = some (.int res.1) ∧ h' = res.2)) 0 [(0, .ref a), (1, ag_rf (x1))] [] h := by
  unfold fn_Rd_readComparison_0 at hyp
  have hc : ag_C1 [(0, .ref a), (1, ag_rf (x1))] := (ag_c1 rfl (ag_c1 (ag_cat_rf _) ag_c0))
  refine gc_aload_n (r := (some (a))) d_Rd_readComparison_0 rfl ?_
  refine gc_aload_n (r := (x1)) d_Rd_readComparison_1 rfl ?_
  refine ag_iconst d_Rd_readComparison_2 ?_
  obtain ⟨a4, ea4, hyp⟩ := md_bd hyp
  obtain ⟨r4, er4, hyp⟩ := md_bd hyp
  refine gc_callv (r := (some (a))) (as := [ag_rf (x1), .int (Int32.ofInt 0)]) d_Rd_readComparison_3 ml_Rd_97 gw_434 rfl sl_Rd_readSum ea4 (Nat.le_of_ble_eq_true rfl) (w_Rd_readSumR hC 6 d (by omega) _ _ _ _ _ er4) (fun v4 h4 q4 => ?_)
  obtain ⟨rfl, rfl⟩ := q4
  refine ag_if_ne d_Rd_readComparison_6 rfl (fun q => ?_) (fun q => ?_)
  · replace hyp := md_ifn q hyp
    refine gc_aload_n (r := (x1)) d_Rd_readComparison_11 rfl ?_
    obtain ⟨a7, ea7, hyp⟩ := md_bd hyp
    obtain ⟨r7, er7, hyp⟩ := md_bd hyp
    refine gc_callv (r := (x1)) (as := []) d_Rd_readComparison_12 ml_Rd_55 gw_299 rfl sl_Ln_sign ea7 (Nat.le_of_ble_eq_true rfl) (w_Ln_sign hC (d := d) (by omega) er7) (fun v7 h7 q7 => ?_)
    obtain ⟨rfl, rfl⟩ := q7
    refine gc_istore_n d_Rd_readComparison_15 (by decide) hc ?_
    replace hc := ag_cs (i := 2) (v := .int (r7.1)) hc rfl
    refine ag_iload_n d_Rd_readComparison_16 rfl ?_
    obtain ⟨r10, er10, hyp⟩ := md_bd hyp
    refine ag_calls (as := [.int (r7.1)]) d_Rd_readComparison_17 ml_Rd_101 gw_453 (Nat.le_of_ble_eq_true rfl) (w_GC_isComparison hC (d := d) (by omega) er10) (fun v10 h10 q10 => ?_)
    obtain ⟨rfl, rfl⟩ := q10
    refine ag_if_ne d_Rd_readComparison_20 rfl (fun q => ?_) (fun q => ?_)
    · replace hyp := md_ifn q hyp
      refine gc_aload_n (r := (x1)) d_Rd_readComparison_25 rfl ?_
      refine ag_dup d_Rd_readComparison_26 (ag_cat_rf _) ?_
      obtain ⟨g14, eg14, hyp⟩ := md_bd hyp
      refine gc_geti (r := (x1)) d_Rd_readComparison_27 fr_Rd_15 eg14 ?_
      refine ag_iconst d_Rd_readComparison_30 ?_
      refine ag_iadd d_Rd_readComparison_31 ?_
      obtain ⟨h17, eh17, hyp⟩ := md_bd hyp
      refine gc_putf (r := (x1)) d_Rd_readComparison_32 fl_Rd_15 (fun q => by cases q) eh17 ?_
      refine gc_aload_n (r := (some (a))) d_Rd_readComparison_35 rfl ?_
      refine gc_aload_n (r := (x1)) d_Rd_readComparison_36 rfl ?_
      refine ag_iconst d_Rd_readComparison_37 ?_
      obtain ⟨a21, ea21, hyp⟩ := md_bd hyp
      obtain ⟨r21, er21, hyp⟩ := md_bd hyp
      refine gc_callv (r := (some (a))) (as := [ag_rf (x1), .int (Int32.ofInt 0)]) d_Rd_readComparison_38 ml_Rd_97 gw_434 rfl sl_Rd_readSum ea21 (Nat.le_of_ble_eq_true rfl) (w_Rd_readSumR hC 6 d (by omega) _ _ _ _ _ er21) (fun v21 h21 q21 => ?_)
      obtain ⟨rfl, rfl⟩ := q21
      refine ag_if_eq d_Rd_readComparison_41 rfl (fun q => ?_) (fun q => ?_)
      · replace hyp := md_ifp q hyp
        exact ag_dr (ag_d1 rfl ag_d0) (w_Rd_readComparison_57 hC hH hyp)
      · replace hyp := md_ifn q hyp
        refine gc_aload_n (r := (some (a))) d_Rd_readComparison_44 rfl ?_
        refine ag_iload_n d_Rd_readComparison_45 rfl ?_
        refine ag_ineg d_Rd_readComparison_46 ?_
        obtain ⟨a26, ea26, hyp⟩ := md_bd hyp
        obtain ⟨r26, er26, hyp⟩ := md_bd hyp
        refine gc_callv (r := (some (a))) (as := [.int (-(r7.1))]) d_Rd_readComparison_47 ml_Rd_105 gw_446 rfl sl_Rd_addStep ea26 (Nat.le_of_ble_eq_true rfl) (w_Rd_addStep hC (d := d) (by omega) er26) (fun v26 h26 q26 => ?_)
        obtain ⟨rfl, rfl⟩ := q26
        refine ag_if_eq d_Rd_readComparison_50 rfl (fun q => ?_) (fun q => ?_)
        · replace hyp := md_ifp q hyp
          exact ag_dr (ag_d1 rfl ag_d0) (w_Rd_readComparison_57 hC hH hyp)
        · replace hyp := md_ifn q hyp
          refine ag_iconst d_Rd_readComparison_53 ?_
          refine ag_goto d_Rd_readComparison_54 rfl ?_
          exact ag_dr (ag_d1 rfl ag_d0) (w_Rd_readComparison_58 hC hH hyp)
    · replace hyp := md_ifp q hyp
      refine ag_iconst d_Rd_readComparison_23 ?_
      obtain ⟨q31, hyp⟩ := md_ifs hyp
      cases hyp
      exact ag_iret d_Rd_readComparison_24 rfl (md_01n q31) ⟨rfl, rfl⟩
  · replace hyp := md_ifp q hyp
    refine ag_iconst d_Rd_readComparison_9 ?_
    obtain ⟨q33, hyp⟩ := md_ifs hyp
    cases hyp
    exact ag_iret d_Rd_readComparison_10 rfl (md_01n q33) ⟨rfl, rfl⟩
theorem w_Rd_readComparison {l : Launch} {G : ag_G} {d N : Nat} {C : Nat × Nat} (hC : ag_cN G = C.1 ∧ ag_cS G = C.2) (hH : 18 + 1 ≤ d) {a : Nat} {p1 : Option Nat} {h : ag_H} {res : (Int32) × ag_H} (hyp : fn_Rd_readComparison N C a p1 h = some res) : ag_Met gc_P l G m_Rd_readComparison d [.ref a, ag_rf (p1)] h (fun v h' => v = some (.int res.1) ∧ h' = res.2) := by
  obtain ⟨d, rfl, hG⟩ := md_dd hH
  exact ag_met0 (by decide) rfl (ag_v1 rfl (ag_v1 (ag_cat_rf _) ag_v0)) (Nat.le_of_ble_eq_true rfl) (ag_dr (ag_d1 rfl (ag_d1 rfl ag_d0)) (w_Rd_readComparison_0 hC hG hyp))
def fn_Rd_readBody_75 (N : Nat) (C : Nat × Nat) (a : Nat) : Nat → Option Nat → Int32 → ag_H → Option ((Int32) × ag_H)
  | 0, _, _, _ => none
  | n + 1, x1, x3, h => if (Int32.ofInt 2) ≤ (x3) then (if md_01 (Int32.ofInt 0) = true then (some ((Int32.ofInt 0), h)) else none) else ((ag_rc h (some (a)) 2).bind fun a8 => (fn_Rd_readComparison N C a8 (x1) h).bind fun r8 => if (r8.1) = (0) then (if md_01 (Int32.ofInt 0) = true then (some ((Int32.ofInt 0), r8.2)) else none) else ((ag_rc r8.2 (x1) 1).bind fun a12 => (fn_Ln_takes N C a12 ((Int8.ofInt (44)).toInt32) r8.2).bind fun r12 => if (r12.1) = (0) then (if md_01 (Int32.ofInt 1) = true then (some ((Int32.ofInt 1), r12.2)) else none) else (fn_Rd_readBody_75 N C a n (x1) ((x3) + Int32.ofInt (1)) r12.2)))
theorem fe_Rd_readBody_75 (N : Nat) (C : Nat × Nat) (a : Nat) (n : Nat) (x1 : Option Nat) (x3 : Int32) (h : ag_H) : fn_Rd_readBody_75 N C a (n + 1) x1 x3 h = (if (Int32.ofInt 2) ≤ (x3) then (if md_01 (Int32.ofInt 0) = true then (some ((Int32.ofInt 0), h)) else none) else ((ag_rc h (some (a)) 2).bind fun a8 => (fn_Rd_readComparison N C a8 (x1) h).bind fun r8 => if (r8.1) = (0) then (if md_01 (Int32.ofInt 0) = true then (some ((Int32.ofInt 0), r8.2)) else none) else ((ag_rc r8.2 (x1) 1).bind fun a12 => (fn_Ln_takes N C a12 ((Int8.ofInt (44)).toInt32) r8.2).bind fun r12 => if (r12.1) = (0) then (if md_01 (Int32.ofInt 1) = true then (some ((Int32.ofInt 1), r12.2)) else none) else (fn_Rd_readBody_75 N C a n (x1) ((x3) + Int32.ofInt (1)) r12.2)))) := rfl
def fn_Rd_readBody_73 (N : Nat) (C : Nat × Nat) (a : Nat) (x1 : Option Nat) (h : ag_H) : Option ((Int32) × ag_H) := fn_Rd_readBody_75 N C a N (x1) (Int32.ofInt 0) h
def fn_Rd_readBody_2 (N : Nat) (C : Nat × Nat) (a : Nat) : Nat → Option Nat → Option Nat → Int32 → ag_H → Option ((Int32) × ag_H)
  | 0, _, _, _, _ => none
  | n + 1, x1, x2, x3, h => if (Int32.ofInt 3) ≤ (x3) then (fn_Rd_readBody_73 N C a (x1) h) else ((fn_Rd_readAtom N C (x1) h).bind fun r5 => if ((r5.1)) = none then (if md_01 (Int32.ofInt 0) = true then (some ((Int32.ofInt 0), r5.2)) else none) else ((ag_rc r5.2 (x2) 11).bind fun a11 => (fn_AL_add N C a11 ((r5.1)) r5.2).bind fun r11 => (ag_gi r11.2 (some (a)) 2 3).bind fun g15 => (ag_rc r11.2 ((r5.1)) 6).bind fun a17 => (fn_At_variables N C a17  r11.2).bind fun r17 => (ag_pf r17.2 (ag_rf (some (a))) 2 3 .int (.int ((g15) ||| (r17.1)))).bind fun h19 => (ag_rc h19 (x1) 1).bind fun a22 => (fn_Ln_takes N C a22 ((Int8.ofInt (44)).toInt32) h19).bind fun r22 => if (r22.1) = (0) then (if md_01 (Int32.ofInt 1) = true then (some ((Int32.ofInt 1), r22.2)) else none) else ((ag_rc r22.2 (x1) 1).bind fun a25 => (fn_Ln_sign N C a25  r22.2).bind fun r25 => (fn_Rd_isName N C (r25.1) r25.2).bind fun r26 => if (r26.1) = (0) then (fn_Rd_readBody_73 N C a (x1) r26.2) else (fn_Rd_readBody_2 N C a n (x1) (x2) ((x3) + Int32.ofInt (1)) r26.2))))
theorem fe_Rd_readBody_2 (N : Nat) (C : Nat × Nat) (a : Nat) (n : Nat) (x1 : Option Nat) (x2 : Option Nat) (x3 : Int32) (h : ag_H) : fn_Rd_readBody_2 N C a (n + 1) x1 x2 x3 h = (if (Int32.ofInt 3) ≤ (x3) then (fn_Rd_readBody_73 N C a (x1) h) else ((fn_Rd_readAtom N C (x1) h).bind fun r5 => if ((r5.1)) = none then (if md_01 (Int32.ofInt 0) = true then (some ((Int32.ofInt 0), r5.2)) else none) else ((ag_rc r5.2 (x2) 11).bind fun a11 => (fn_AL_add N C a11 ((r5.1)) r5.2).bind fun r11 => (ag_gi r11.2 (some (a)) 2 3).bind fun g15 => (ag_rc r11.2 ((r5.1)) 6).bind fun a17 => (fn_At_variables N C a17  r11.2).bind fun r17 => (ag_pf r17.2 (ag_rf (some (a))) 2 3 .int (.int ((g15) ||| (r17.1)))).bind fun h19 => (ag_rc h19 (x1) 1).bind fun a22 => (fn_Ln_takes N C a22 ((Int8.ofInt (44)).toInt32) h19).bind fun r22 => if (r22.1) = (0) then (if md_01 (Int32.ofInt 1) = true then (some ((Int32.ofInt 1), r22.2)) else none) else ((ag_rc r22.2 (x1) 1).bind fun a25 => (fn_Ln_sign N C a25  r22.2).bind fun r25 => (fn_Rd_isName N C (r25.1) r25.2).bind fun r26 => if (r26.1) = (0) then (fn_Rd_readBody_73 N C a (x1) r26.2) else (fn_Rd_readBody_2 N C a n (x1) (x2) ((x3) + Int32.ofInt (1)) r26.2))))) := rfl
def fn_Rd_readBody_0 (N : Nat) (C : Nat × Nat) (a : Nat) (x1 : Option Nat) (x2 : Option Nat) (h : ag_H) : Option ((Int32) × ag_H) := fn_Rd_readBody_2 N C a N (x1) (x2) (Int32.ofInt 0) h
def fn_Rd_readBody (N : Nat) (C : Nat × Nat) (a : Nat) (p1 : Option Nat) (p2 : Option Nat) (h : ag_H) : Option ((Int32) × ag_H) := fn_Rd_readBody_0 N C a p1 p2 h
theorem w_Rd_readBody_75 {l : Launch} {G : ag_G} {d N : Nat} {C : Nat × Nat} {a : Nat} (hC : ag_cN G = C.1 ∧ ag_cS G = C.2) (hH : 19 ≤ d) : ∀ (n : Nat) (res : (Int32) × ag_H) (x1 : Option Nat) (x3 : Int32) (h : ag_H) , fn_Rd_readBody_75 N C a n x1 x3 h = some res → ag_ev gc_P l G m_Rd_readBody (d + 1) (ag_ret gc_P G (fun v h' => v = some (.int res.1) ∧ h' = res.2)) 75 [(0, .ref a), (1, ag_rf (x1)), (3, .int (x3))] [] h := by
  intro n
  induction n with
  | zero =>
    intro res x1 x3 h hyp
    cases hyp
  | succ n ih =>
    intro res x1 x3 h hyp
    rw [fe_Rd_readBody_75] at hyp
    have hc : ag_C1 [(0, .ref a), (1, ag_rf (x1)), (3, .int (x3))] := (ag_c1 rfl (ag_c1 (ag_cat_rf _) (ag_c1 rfl ag_c0)))
    refine ag_iload_n d_Rd_readBody_75 rfl ?_
    refine ag_iconst d_Rd_readBody_76 ?_
    refine ag_icmp_ge d_Rd_readBody_77 rfl (fun q => ?_) (fun q => ?_)
    · replace hyp := md_ifp q hyp
      refine ag_iconst d_Rd_readBody_107 ?_
      obtain ⟨q5, hyp⟩ := md_ifs hyp
      cases hyp
      exact ag_iret d_Rd_readBody_108 rfl (md_01n q5) ⟨rfl, rfl⟩
    · replace hyp := md_ifn q hyp
      refine gc_aload_n (r := (some (a))) d_Rd_readBody_80 rfl ?_
      refine gc_aload_n (r := (x1)) d_Rd_readBody_81 rfl ?_
      obtain ⟨a8, ea8, hyp⟩ := md_bd hyp
      obtain ⟨r8, er8, hyp⟩ := md_bd hyp
      refine gc_callv (r := (some (a))) (as := [ag_rf (x1)]) d_Rd_readBody_82 ml_Rd_93 gw_430 rfl sl_Rd_readComparison ea8 (Nat.le_of_ble_eq_true rfl) (w_Rd_readComparison hC (d := d) (by omega) er8) (fun v8 h8 q8 => ?_)
      obtain ⟨rfl, rfl⟩ := q8
      refine ag_if_ne d_Rd_readBody_85 rfl (fun q => ?_) (fun q => ?_)
      · replace hyp := md_ifn q hyp
        refine gc_aload_n (r := (x1)) d_Rd_readBody_90 rfl ?_
        refine ag_bipush d_Rd_readBody_91 ?_
        obtain ⟨a12, ea12, hyp⟩ := md_bd hyp
        obtain ⟨r12, er12, hyp⟩ := md_bd hyp
        refine gc_callv (r := (x1)) (as := [.int ((Int8.ofInt (44)).toInt32)]) d_Rd_readBody_93 ml_Rd_44 gw_295 rfl sl_Ln_takes ea12 (Nat.le_of_ble_eq_true rfl) (w_Ln_takes hC (d := d) (by omega) er12) (fun v12 h12 q12 => ?_)
        obtain ⟨rfl, rfl⟩ := q12
        refine ag_if_ne d_Rd_readBody_96 rfl (fun q => ?_) (fun q => ?_)
        · replace hyp := md_ifn q hyp
          refine gc_iinc d_Rd_readBody_101 rfl (by decide) hc ?_
          replace hc := ag_cs (i := 3) (v := .int ((x3) + Int32.ofInt (1))) hc rfl
          refine ag_goto d_Rd_readBody_104 rfl ?_
          exact ag_dr (ag_d1 rfl (ag_d1 rfl (ag_d1 rfl ag_d0))) (ih _ _ _ _ hyp)
        · replace hyp := md_ifp q hyp
          refine ag_iconst d_Rd_readBody_99 ?_
          obtain ⟨q17, hyp⟩ := md_ifs hyp
          cases hyp
          exact ag_iret d_Rd_readBody_100 rfl (md_01n q17) ⟨rfl, rfl⟩
      · replace hyp := md_ifp q hyp
        refine ag_iconst d_Rd_readBody_88 ?_
        obtain ⟨q19, hyp⟩ := md_ifs hyp
        cases hyp
        exact ag_iret d_Rd_readBody_89 rfl (md_01n q19) ⟨rfl, rfl⟩
theorem w_Rd_readBody_73 {l : Launch} {G : ag_G} {d N : Nat} {C : Nat × Nat} {a : Nat} (hC : ag_cN G = C.1 ∧ ag_cS G = C.2) (hH : 19 ≤ d) {x1 : Option Nat} {h : ag_H} {res : (Int32) × ag_H} (hyp : fn_Rd_readBody_73 N C a x1 h = some res) : ag_ev gc_P l G m_Rd_readBody (d + 1) (ag_ret gc_P G (fun v h' => v = some (.int res.1) ∧ h' = res.2)) 73 [(0, .ref a), (1, ag_rf (x1))] [] h := by
  unfold fn_Rd_readBody_73 at hyp
  have hc : ag_C1 [(0, .ref a), (1, ag_rf (x1))] := (ag_c1 rfl (ag_c1 (ag_cat_rf _) ag_c0))
  refine ag_iconst d_Rd_readBody_73 ?_
  refine gc_istore_n d_Rd_readBody_74 (by decide) hc ?_
  replace hc := ag_cs (i := 3) (v := .int (Int32.ofInt 0)) hc rfl
  exact ag_dr (ag_d1 rfl (ag_d1 rfl (ag_d1 rfl ag_d0))) (w_Rd_readBody_75 hC hH N _ _ _ _ hyp)
theorem w_Rd_readBody_2 {l : Launch} {G : ag_G} {d N : Nat} {C : Nat × Nat} {a : Nat} (hC : ag_cN G = C.1 ∧ ag_cS G = C.2) (hH : 19 ≤ d) : ∀ (n : Nat) (res : (Int32) × ag_H) (x1 : Option Nat) (x2 : Option Nat) (x3 : Int32) (h : ag_H) , fn_Rd_readBody_2 N C a n x1 x2 x3 h = some res → ag_ev gc_P l G m_Rd_readBody (d + 1) (ag_ret gc_P G (fun v h' => v = some (.int res.1) ∧ h' = res.2)) 2 [(0, .ref a), (1, ag_rf (x1)), (2, ag_rf (x2)), (3, .int (x3))] [] h := by
  intro n
  induction n with
  | zero =>
    intro res x1 x2 x3 h hyp
    cases hyp
  | succ n ih =>
    intro res x1 x2 x3 h hyp
    rw [fe_Rd_readBody_2] at hyp
    have hc : ag_C1 [(0, .ref a), (1, ag_rf (x1)), (2, ag_rf (x2)), (3, .int (x3))] := (ag_c1 rfl (ag_c1 (ag_cat_rf _) (ag_c1 (ag_cat_rf _) (ag_c1 rfl ag_c0))))
    refine ag_iload_n d_Rd_readBody_2 rfl ?_
    refine ag_iconst d_Rd_readBody_3 ?_
    refine ag_icmp_ge d_Rd_readBody_4 rfl (fun q => ?_) (fun q => ?_)
    · replace hyp := md_ifp q hyp
      exact ag_dr (ag_d1 rfl (ag_d1 rfl ag_d0)) (w_Rd_readBody_73 hC hH hyp)
    · replace hyp := md_ifn q hyp
      refine gc_aload_n (r := (x1)) d_Rd_readBody_7 rfl ?_
      obtain ⟨r5, er5, hyp⟩ := md_bd hyp
      refine ag_calls (as := [ag_rf (x1)]) d_Rd_readBody_8 ml_Rd_34 gw_303 (Nat.le_of_ble_eq_true rfl) (w_Rd_readAtom hC (d := d) (by omega) er5) (fun v5 h5 q5 => ?_)
      obtain ⟨rfl, rfl⟩ := q5
      refine gc_astore0 (r := (r5.1)) d_Rd_readBody_11 (by decide) hc ?_
      replace hc := ag_cs (i := 4) (v := ag_rf (r5.1)) hc (ag_cat_rf _)
      refine gc_aload (r := ((r5.1))) d_Rd_readBody_13 rfl ?_
      refine gc_ifnonnull (r := ((r5.1))) d_Rd_readBody_15 rfl (fun q => ?_) (fun q => ?_)
      · replace hyp := md_ifn q hyp
        refine gc_aload_n (r := (x2)) d_Rd_readBody_20 rfl ?_
        refine gc_aload (r := ((r5.1))) d_Rd_readBody_21 rfl ?_
        obtain ⟨a11, ea11, hyp⟩ := md_bd hyp
        obtain ⟨r11, er11, hyp⟩ := md_bd hyp
        refine gc_callf (r := (x2)) (as := [ag_rf ((r5.1))]) d_Rd_readBody_23 il_Rd_87 ea11 (Nat.le_of_ble_eq_true rfl) (w_AL_add hC (d := d) (by omega) er11) (fun v11 h11 q11 => ?_)
        obtain ⟨rfl, rfl⟩ := q11
        refine ag_pop d_Rd_readBody_28 rfl ?_
        refine gc_aload_n (r := (some (a))) d_Rd_readBody_29 rfl ?_
        refine ag_dup d_Rd_readBody_30 rfl ?_
        obtain ⟨g15, eg15, hyp⟩ := md_bd hyp
        refine gc_geti (r := (some (a))) d_Rd_readBody_31 fr_Rd_27 eg15 ?_
        refine gc_aload (r := ((r5.1))) d_Rd_readBody_34 rfl ?_
        obtain ⟨a17, ea17, hyp⟩ := md_bd hyp
        obtain ⟨r17, er17, hyp⟩ := md_bd hyp
        refine gc_callv (r := ((r5.1))) (as := []) d_Rd_readBody_36 ml_Rd_38 gw_347 rfl sl_At_variables ea17 (Nat.le_of_ble_eq_true rfl) (w_At_variables hC (d := d) (by omega) er17) (fun v17 h17 q17 => ?_)
        obtain ⟨rfl, rfl⟩ := q17
        refine ag_ior d_Rd_readBody_39 ?_
        obtain ⟨h19, eh19, hyp⟩ := md_bd hyp
        refine gc_putf (r := (some (a))) d_Rd_readBody_40 fl_Rd_27 (fun q => by cases q) eh19 ?_
        refine gc_aload_n (r := (x1)) d_Rd_readBody_43 rfl ?_
        refine ag_bipush d_Rd_readBody_44 ?_
        obtain ⟨a22, ea22, hyp⟩ := md_bd hyp
        obtain ⟨r22, er22, hyp⟩ := md_bd hyp
        refine gc_callv (r := (x1)) (as := [.int ((Int8.ofInt (44)).toInt32)]) d_Rd_readBody_46 ml_Rd_44 gw_295 rfl sl_Ln_takes ea22 (Nat.le_of_ble_eq_true rfl) (w_Ln_takes hC (d := d) (by omega) er22) (fun v22 h22 q22 => ?_)
        obtain ⟨rfl, rfl⟩ := q22
        refine ag_if_ne d_Rd_readBody_49 rfl (fun q => ?_) (fun q => ?_)
        · replace hyp := md_ifn q hyp
          refine gc_aload_n (r := (x1)) d_Rd_readBody_54 rfl ?_
          obtain ⟨a25, ea25, hyp⟩ := md_bd hyp
          obtain ⟨r25, er25, hyp⟩ := md_bd hyp
          refine gc_callv (r := (x1)) (as := []) d_Rd_readBody_55 ml_Rd_55 gw_299 rfl sl_Ln_sign ea25 (Nat.le_of_ble_eq_true rfl) (w_Ln_sign hC (d := d) (by omega) er25) (fun v25 h25 q25 => ?_)
          obtain ⟨rfl, rfl⟩ := q25
          obtain ⟨r26, er26, hyp⟩ := md_bd hyp
          refine ag_calls (as := [.int (r25.1)]) d_Rd_readBody_58 ml_Rd_70 gw_307 (Nat.le_of_ble_eq_true rfl) (w_Rd_isName hC (d := d) (by omega) er26) (fun v26 h26 q26 => ?_)
          obtain ⟨rfl, rfl⟩ := q26
          refine ag_if_ne d_Rd_readBody_61 rfl (fun q => ?_) (fun q => ?_)
          · replace hyp := md_ifn q hyp
            refine gc_iinc d_Rd_readBody_67 rfl (by decide) hc ?_
            replace hc := ag_cs (i := 3) (v := .int ((x3) + Int32.ofInt (1))) hc rfl
            refine ag_goto d_Rd_readBody_70 rfl ?_
            exact ag_dr (ag_d1 rfl (ag_d1 rfl (ag_d1 rfl (ag_d1 rfl ag_d0)))) (ih _ _ _ _ _ hyp)
          · replace hyp := md_ifp q hyp
            refine ag_goto d_Rd_readBody_64 rfl ?_
            exact ag_dr (ag_d1 rfl (ag_d1 rfl ag_d0)) (w_Rd_readBody_73 hC hH hyp)
        · replace hyp := md_ifp q hyp
          refine ag_iconst d_Rd_readBody_52 ?_
          obtain ⟨q32, hyp⟩ := md_ifs hyp
          cases hyp
          exact ag_iret d_Rd_readBody_53 rfl (md_01n q32) ⟨rfl, rfl⟩
      · replace hyp := md_ifp q hyp
        refine ag_iconst d_Rd_readBody_18 ?_
        obtain ⟨q34, hyp⟩ := md_ifs hyp
        cases hyp
        exact ag_iret d_Rd_readBody_19 rfl (md_01n q34) ⟨rfl, rfl⟩
theorem w_Rd_readBody_0 {l : Launch} {G : ag_G} {d N : Nat} {C : Nat × Nat} {a : Nat} (hC : ag_cN G = C.1 ∧ ag_cS G = C.2) (hH : 19 ≤ d) {x1 : Option Nat} {x2 : Option Nat} {h : ag_H} {res : (Int32) × ag_H} (hyp : fn_Rd_readBody_0 N C a x1 x2 h = some res) : ag_ev gc_P l G m_Rd_readBody (d + 1) (ag_ret gc_P G (fun v h' => v = some (.int res.1) ∧ h' = res.2)) 0 [(0, .ref a), (1, ag_rf (x1)), (2, ag_rf (x2))] [] h := by
  unfold fn_Rd_readBody_0 at hyp
  have hc : ag_C1 [(0, .ref a), (1, ag_rf (x1)), (2, ag_rf (x2))] := (ag_c1 rfl (ag_c1 (ag_cat_rf _) (ag_c1 (ag_cat_rf _) ag_c0)))
  refine ag_iconst d_Rd_readBody_0 ?_
  refine gc_istore_n d_Rd_readBody_1 (by decide) hc ?_
  replace hc := ag_cs (i := 3) (v := .int (Int32.ofInt 0)) hc rfl
  exact ag_dr (ag_d1 rfl (ag_d1 rfl (ag_d1 rfl (ag_d1 rfl ag_d0)))) (w_Rd_readBody_2 hC hH N _ _ _ _ _ hyp)
theorem w_Rd_readBody {l : Launch} {G : ag_G} {d N : Nat} {C : Nat × Nat} (hC : ag_cN G = C.1 ∧ ag_cS G = C.2) (hH : 19 + 1 ≤ d) {a : Nat} {p1 : Option Nat} {p2 : Option Nat} {h : ag_H} {res : (Int32) × ag_H} (hyp : fn_Rd_readBody N C a p1 p2 h = some res) : ag_Met gc_P l G m_Rd_readBody d [.ref a, ag_rf (p1), ag_rf (p2)] h (fun v h' => v = some (.int res.1) ∧ h' = res.2) := by
  obtain ⟨d, rfl, hG⟩ := md_dd hH
  exact ag_met0 (by decide) rfl (ag_v1 rfl (ag_v1 (ag_cat_rf _) (ag_v1 (ag_cat_rf _) ag_v0))) (Nat.le_of_ble_eq_true rfl) (ag_dr (ag_d1 rfl (ag_d1 rfl (ag_d1 rfl ag_d0))) (w_Rd_readBody_0 hC hG hyp))
def fn_Ar_copyOf3_0 (N : Nat) (C : Nat × Nat) (x0 : Option Nat) (x1 : Int32) (h : ag_H) : Option ((Option Nat) × ag_H) := (ag_le h (x0)).bind fun g3 => if (x1) = (g3) then (none) else (if ¬ (x1) < 0 ∧ (x1).toNatClampNeg * 4 ≤ 536870912 ∧ h.1 + 1 ≤ C.1 ∧ h.2.1 + (x1).toNatClampNeg ≤ C.2 then ((ag_le (ag_nw h (x1).toNatClampNeg (.inl (0, (x1).toNatClampNeg, .inl (fun _ => 0)))) (x0)).bind fun g13 => (ag_cpi (ag_nw h (x1).toNatClampNeg (.inl (0, (x1).toNatClampNeg, .inl (fun _ => 0)))) (x0) (Int32.ofInt 0) ((some (h.1))) (Int32.ofInt 0) (if (x1) < (g13) then (x1) else (g13))).bind fun h16 => some (((some (h.1))), h16)) else none)
def fn_Ar_copyOf3 (N : Nat) (C : Nat × Nat) (p0 : Option Nat) (p1 : Int32) (h : ag_H) : Option ((Option Nat) × ag_H) := fn_Ar_copyOf3_0 N C p0 p1 h
theorem w_Ar_copyOf3_0 {l : Launch} {G : ag_G} {d N : Nat} {C : Nat × Nat} (hC : ag_cN G = C.1 ∧ ag_cS G = C.2) {x0 : Option Nat} {x1 : Int32} {h : ag_H} {res : (Option Nat) × ag_H} (hyp : fn_Ar_copyOf3_0 N C x0 x1 h = some res) : ag_ev gc_P l G m_Ar_copyOf3 (d) (ag_ret gc_P G (fun v h' => v = some (ag_rf res.1) ∧ h' = res.2)) 0 [(0, ag_rf (x0)), (1, .int (x1))] [] h := by
  unfold fn_Ar_copyOf3_0 at hyp
  have hc : ag_C1 [(0, ag_rf (x0)), (1, .int (x1))] := (ag_c1 (ag_cat_rf _) (ag_c1 rfl ag_c0))
  refine ag_iload_n d_Ar_copyOf3_0 rfl ?_
  refine gc_aload_n (r := (x0)) d_Ar_copyOf3_1 rfl ?_
  obtain ⟨g3, eg3, hyp⟩ := md_bd hyp
  refine gc_alen (r := (x0)) d_Ar_copyOf3_2 eg3 ?_
  refine ag_icmp_ne d_Ar_copyOf3_3 rfl (fun q => ?_) (fun q => ?_)
  · replace hyp := md_ifn q hyp
    refine ag_iload_n d_Ar_copyOf3_14 rfl ?_
    obtain ⟨q6, hyp⟩ := md_ifs hyp
    refine gc_newi (ty := .int) (t := 0) (b := 4) hC d_Ar_copyOf3_15 gw_74 rfl rfl (fun D q => by cases q) rfl rfl q6 ?_
    refine gc_astore0_n (r := (some (h.1))) d_Ar_copyOf3_17 (by decide) hc ?_
    replace hc := ag_cs (i := 2) (v := ag_rf (some (h.1))) hc (ag_cat_rf _)
    refine gc_aload_n (r := (x0)) d_Ar_copyOf3_18 rfl ?_
    refine ag_iconst d_Ar_copyOf3_19 ?_
    refine gc_aload_n (r := ((some (h.1)))) d_Ar_copyOf3_20 rfl ?_
    refine ag_iconst d_Ar_copyOf3_21 ?_
    refine gc_aload_n (r := (x0)) d_Ar_copyOf3_22 rfl ?_
    obtain ⟨g13, eg13, hyp⟩ := md_bd hyp
    refine gc_alen (r := (x0)) d_Ar_copyOf3_23 eg13 ?_
    refine ag_iload_n d_Ar_copyOf3_24 rfl ?_
    refine ag_min d_Ar_copyOf3_25 gw_420 gw_421 gw_13 gw_min (ag_w9 (ag_v1 rfl (ag_v1 (ag_cat_rf _) (ag_v1 rfl (ag_v1 (ag_cat_rf _) ag_v0)))) (Nat.le_of_ble_eq_true rfl)) ?_
    obtain ⟨h16, eh16, hyp⟩ := md_bd hyp
    refine gc_cpi (r0 := (x0)) (r := ((some (h.1)))) d_Ar_copyOf3_28 gw_423 gw_425 gw_424 gw_15 (Nat.le_of_ble_eq_true rfl) eh16 ?_
    refine gc_aload_n (r := ((some (h.1)))) d_Ar_copyOf3_31 rfl ?_
    cases hyp
    exact gc_aret (r := ((some (h.1)))) d_Ar_copyOf3_32 rfl (Or.inr ⟨_, rfl⟩) ⟨rfl, rfl⟩
  · replace hyp := md_ifp q hyp
    refine gc_aload_n (r := (x0)) d_Ar_copyOf3_6 rfl ?_
    cases hyp
theorem w_Ar_copyOf3 {l : Launch} {G : ag_G} {d N : Nat} {C : Nat × Nat} (hC : ag_cN G = C.1 ∧ ag_cS G = C.2) (hH : 0 ≤ d) {p0 : Option Nat} {p1 : Int32} {h : ag_H} {res : (Option Nat) × ag_H} (hyp : fn_Ar_copyOf3 N C p0 p1 h = some res) : ag_Met gc_P l G m_Ar_copyOf3 d [ag_rf (p0), .int (p1)] h (fun v h' => v = some (ag_rf res.1) ∧ h' = res.2) := by
  exact ag_met0 (by decide) rfl (ag_v1 (ag_cat_rf _) (ag_v1 rfl ag_v0)) (Nat.le_of_ble_eq_true rfl) (ag_dr (ag_d1 rfl (ag_d1 rfl ag_d0)) (w_Ar_copyOf3_0 hC hyp))
def fn_Cl_init_0 (N : Nat) (C : Nat × Nat) (a : Nat) (x1 : Int32) (x2 : Int32) (x3 : Option Nat) (x4 : Option Nat) (x5 : Option Nat) (h : ag_H) : Option ((Int32) × ag_H) := (ag_pf h (ag_rf (some (a))) 7 0 .int (.int (x1))).bind fun h5 => (ag_pf h5 (ag_rf (some (a))) 7 1 .boolean (.int (x2))).bind fun h8 => (ag_pf h8 (ag_rf (some (a))) 7 2 (.object "GrantChain$Atom") (ag_rf (x3))).bind fun h11 => (ag_pf h11 (ag_rf (some (a))) 7 3 (.object "java/util/List") (ag_rf (x4))).bind fun h14 => (ag_pf h14 (ag_rf (some (a))) 7 4 (.array .int) (ag_rf (x5))).bind fun h17 => some (0, h17)
def fn_Cl_init (N : Nat) (C : Nat × Nat) (a : Nat) (p1 : Int32) (p2 : Int32) (p3 : Option Nat) (p4 : Option Nat) (p5 : Option Nat) (h : ag_H) : Option ((Int32) × ag_H) := fn_Cl_init_0 N C a p1 p2 p3 p4 p5 h
theorem w_Cl_init_0 {l : Launch} {G : ag_G} {d N : Nat} {C : Nat × Nat} {a : Nat} (hC : ag_cN G = C.1 ∧ ag_cS G = C.2) {x1 : Int32} {x2 : Int32} {x3 : Option Nat} {x4 : Option Nat} {x5 : Option Nat} {h : ag_H} {res : (Int32) × ag_H} (hyp : fn_Cl_init_0 N C a x1 x2 x3 x4 x5 h = some res) : ag_ev gc_P l G m_Cl_init (d) (ag_ret gc_P G (fun v h' => v = none ∧ h' = res.2)) 0 [(0, .ref a), (1, .int (x1)), (2, .int (x2)), (3, ag_rf (x3)), (4, ag_rf (x4)), (5, ag_rf (x5))] [] h := by
  unfold fn_Cl_init_0 at hyp
  have hc : ag_C1 [(0, .ref a), (1, .int (x1)), (2, .int (x2)), (3, ag_rf (x3)), (4, ag_rf (x4)), (5, ag_rf (x5))] := (ag_c1 rfl (ag_c1 rfl (ag_c1 rfl (ag_c1 (ag_cat_rf _) (ag_c1 (ag_cat_rf _) (ag_c1 (ag_cat_rf _) ag_c0))))))
  refine gc_aload_n (r := (some (a))) d_Cl_init_0 rfl ?_
  refine ag_obji (a := a) d_Cl_init_1 gw_470 gw_34 gw_35 (Nat.le_of_ble_eq_true rfl) ?_
  refine gc_aload_n (r := (some (a))) d_Cl_init_4 rfl ?_
  refine ag_iload_n d_Cl_init_5 rfl ?_
  obtain ⟨h5, eh5, hyp⟩ := md_bd hyp
  refine gc_putf (r := (some (a))) d_Cl_init_6 fl_Cl_7 (fun _ => rfl) eh5 ?_
  refine gc_aload_n (r := (some (a))) d_Cl_init_9 rfl ?_
  refine ag_iload_n d_Cl_init_10 rfl ?_
  obtain ⟨h8, eh8, hyp⟩ := md_bd hyp
  refine gc_putf (r := (some (a))) d_Cl_init_11 fl_Cl_13 (fun _ => rfl) eh8 ?_
  refine gc_aload_n (r := (some (a))) d_Cl_init_14 rfl ?_
  refine gc_aload_n (r := (x3)) d_Cl_init_15 rfl ?_
  obtain ⟨h11, eh11, hyp⟩ := md_bd hyp
  refine gc_putf (r := (some (a))) d_Cl_init_16 fl_Cl_17 (fun _ => rfl) eh11 ?_
  refine gc_aload_n (r := (some (a))) d_Cl_init_19 rfl ?_
  refine gc_aload (r := (x4)) d_Cl_init_20 rfl ?_
  obtain ⟨h14, eh14, hyp⟩ := md_bd hyp
  refine gc_putf (r := (some (a))) d_Cl_init_22 fl_Cl_21 (fun _ => rfl) eh14 ?_
  refine gc_aload_n (r := (some (a))) d_Cl_init_25 rfl ?_
  refine gc_aload (r := (x5)) d_Cl_init_26 rfl ?_
  obtain ⟨h17, eh17, hyp⟩ := md_bd hyp
  refine gc_putf (r := (some (a))) d_Cl_init_28 fl_Cl_25 (fun _ => rfl) eh17 ?_
  cases hyp
  exact ag_vret d_Cl_init_31 rfl ⟨rfl, rfl⟩
theorem w_Cl_init {l : Launch} {G : ag_G} {d N : Nat} {C : Nat × Nat} (hC : ag_cN G = C.1 ∧ ag_cS G = C.2) (hH : 0 ≤ d) {a : Nat} {p1 : Int32} {p2 : Int32} {p3 : Option Nat} {p4 : Option Nat} {p5 : Option Nat} {h : ag_H} {res : (Int32) × ag_H} (hyp : fn_Cl_init N C a p1 p2 p3 p4 p5 h = some res) : ag_Met gc_P l G m_Cl_init d [.ref a, .int (p1), .int (p2), ag_rf (p3), ag_rf (p4), ag_rf (p5)] h (fun v h' => v = none ∧ h' = res.2) := by
  exact ag_met0 (by decide) rfl (ag_v1 rfl (ag_v1 rfl (ag_v1 rfl (ag_v1 (ag_cat_rf _) (ag_v1 (ag_cat_rf _) (ag_v1 (ag_cat_rf _) ag_v0)))))) (Nat.le_of_ble_eq_true rfl) (ag_dr (ag_d1 rfl (ag_d1 rfl (ag_d1 rfl (ag_d1 rfl (ag_d1 rfl (ag_d1 rfl ag_d0)))))) (w_Cl_init_0 hC hyp))
def fn_Rd_read_131 (N : Nat) (C : Nat × Nat) (a : Nat) (h : ag_H) : Option ((Option Nat) × ag_H) := some ((none), h)
def fn_Rd_read_108 (N : Nat) (C : Nat × Nat) (a : Nat) (x1 : Option Nat) (x2 : Option Nat) (x3 : Int32) (x4 : Option Nat) (s0 : Int32) (h : ag_H) : Option ((Option Nat) × ag_H) := (ag_rc h (x1) 1).bind fun a3 => (fn_Ln_sign N C a3  h).bind fun r3 => if (r3.1) = (0) then ((ag_gi r3.2 (some (a)) 2 2).bind fun g6 => (ag_gi r3.2 (some (a)) 2 3).bind fun g8 => if ((g6) &&& ((g8) ^^^ (Int32.ofInt (-1)))) = (0) then (if r3.2.1 + 1 ≤ C.1 ∧ r3.2.2.1 + 5 ≤ C.2 then ((ag_gr (ag_nw r3.2 5 (.inr (7, [.int 0, .int 0, .null, .null, .null]))) (some (a)) 2 0).bind fun g20 => (ag_gi (ag_nw r3.2 5 (.inr (7, [.int 0, .int 0, .null, .null, .null]))) (some (a)) 2 1).bind fun g22 => (fn_Ar_copyOf3 N C (g20) (g22) (ag_nw r3.2 5 (.inr (7, [.int 0, .int 0, .null, .null, .null])))).bind fun r23 => (fn_Cl_init N C (r3.2.1) (x3) (s0) (x2) (x4) (r23.1) r23.2).bind fun r24 => some ((some (r3.2.1)), r24.2)) else none) else (fn_Rd_read_131 N C a  r3.2)) else (fn_Rd_read_131 N C a  r3.2)
def fn_Rd_read_107 (N : Nat) (C : Nat × Nat) (a : Nat) (x1 : Option Nat) (x2 : Option Nat) (x3 : Int32) (x4 : Option Nat) (h : ag_H) : Option ((Option Nat) × ag_H) := fn_Rd_read_108 N C a (x1) (x2) (x3) (x4) (Int32.ofInt 0) h
def fn_Rd_read_90 (N : Nat) (C : Nat × Nat) (a : Nat) (x1 : Option Nat) (x2 : Option Nat) (x3 : Int32) (x4 : Option Nat) (h : ag_H) : Option ((Option Nat) × ag_H) := if (x3) = (0) then (fn_Rd_read_107 N C a (x1) (x2) (x3) (x4) h) else ((ag_rc h (x1) 1).bind fun a5 => (fn_Ln_takes N C a5 ((Int8.ofInt (42)).toInt32) h).bind fun r5 => if (r5.1) = (0) then (fn_Rd_read_107 N C a (x1) (x2) (x3) (x4) r5.2) else (fn_Rd_read_108 N C a (x1) (x2) (x3) (x4) (Int32.ofInt 1) r5.2))
def fn_Rd_read_65 (N : Nat) (C : Nat × Nat) (a : Nat) (x1 : Option Nat) (x2 : Option Nat) (x3 : Int32) (h : ag_H) : Option ((Option Nat) × ag_H) := if h.1 + 1 ≤ C.1 ∧ h.2.1 + 3 ≤ C.2 then ((fn_AL_init N C (h.1)  (ag_nw h 3 (.inr (11, [.null, .int 0, .int 0])))).bind fun r3 => if (x3) = (0) then (fn_Rd_read_90 N C a (x1) (x2) (x3) ((some (h.1))) r3.2) else ((ag_rc r3.2 (some (a)) 2).bind fun a10 => (fn_Rd_readBody N C a10 (x1) ((some (h.1))) r3.2).bind fun r10 => if (r10.1) = (0) then (some ((none), r10.2)) else (fn_Rd_read_90 N C a (x1) (x2) (x3) ((some (h.1))) r10.2))) else none
def fn_Rd_read_64 (N : Nat) (C : Nat × Nat) (a : Nat) (x1 : Option Nat) (x2 : Option Nat) (s0 : Int32) (h : ag_H) : Option ((Option Nat) × ag_H) := fn_Rd_read_65 N C a (x1) (x2) (s0) h
def fn_Rd_read_0 (N : Nat) (C : Nat × Nat) (a : Nat) (x1 : Option Nat) (h : ag_H) : Option ((Option Nat) × ag_H) := (ag_pf h (ag_rf (x1)) 1 2 .int (.int (Int32.ofInt 0))).bind fun h3 => (ag_pf h3 (ag_rf (some (a))) 2 1 .int (.int (Int32.ofInt 0))).bind fun h6 => (ag_pf h6 (ag_rf (some (a))) 2 2 .int (.int (Int32.ofInt 0))).bind fun h9 => (ag_pf h9 (ag_rf (some (a))) 2 3 .int (.int (Int32.ofInt 0))).bind fun h12 => (fn_Rd_readKind N C (x1) h12).bind fun r16 => if (r16.1) = (0) then ((fn_Rd_readAtom N C (x1) r16.2).bind fun r21 => if ((r21.1)) = none then (some ((none), r21.2)) else ((ag_rc r21.2 ((r21.1)) 6).bind fun a27 => (fn_At_variables N C a27  r21.2).bind fun r27 => (ag_pf r27.2 (ag_rf (some (a))) 2 2 .int (.int (r27.1))).bind fun h28 => (ag_rc h28 (x1) 1).bind fun a31 => (fn_Ln_takes N C a31 ((Int8.ofInt (61)).toInt32) h28).bind fun r31 => if (r31.1) = (0) then (fn_Rd_read_64 N C a (x1) ((r21.1)) (Int32.ofInt 0) r31.2) else (fn_Rd_read_64 N C a (x1) ((r21.1)) (Int32.ofInt 1) r31.2))) else (fn_Rd_read_65 N C a (x1) ((none)) (r16.1) r16.2)
def fn_Rd_read (N : Nat) (C : Nat × Nat) (a : Nat) (p1 : Option Nat) (h : ag_H) : Option ((Option Nat) × ag_H) := fn_Rd_read_0 N C a p1 h
theorem w_Rd_read_131 {l : Launch} {G : ag_G} {d N : Nat} {C : Nat × Nat} {a : Nat} (hC : ag_cN G = C.1 ∧ ag_cS G = C.2) (hH : 20 ≤ d) {h : ag_H} {res : (Option Nat) × ag_H} (hyp : fn_Rd_read_131 N C a h = some res) : ag_ev gc_P l G m_Rd_read (d + 1) (ag_ret gc_P G (fun v h' => v = some (ag_rf res.1) ∧ h' = res.2)) 131 [(0, .ref a)] [] h := by
  unfold fn_Rd_read_131 at hyp
  have hc : ag_C1 [(0, .ref a)] := (ag_c1 rfl ag_c0)
  refine ag_null d_Rd_read_131 ?_
  cases hyp
  exact gc_aret (r := (none)) d_Rd_read_132 rfl (Or.inl ⟨_, rfl⟩) ⟨rfl, rfl⟩
theorem w_Rd_read_108 {l : Launch} {G : ag_G} {d N : Nat} {C : Nat × Nat} {a : Nat} (hC : ag_cN G = C.1 ∧ ag_cS G = C.2) (hH : 20 ≤ d) {x1 : Option Nat} {x2 : Option Nat} {x3 : Int32} {x4 : Option Nat} {s0 : Int32} {h : ag_H} {res : (Option Nat) × ag_H} (hyp : fn_Rd_read_108 N C a x1 x2 x3 x4 s0 h = some res) : ag_ev gc_P l G m_Rd_read (d + 1) (ag_ret gc_P G (fun v h' => v = some (ag_rf res.1) ∧ h' = res.2)) 108 [(0, .ref a), (1, ag_rf (x1)), (2, ag_rf (x2)), (3, .int (x3)), (4, ag_rf (x4))] [.int (s0)] h := by
  unfold fn_Rd_read_108 at hyp
  have hc : ag_C1 [(0, .ref a), (1, ag_rf (x1)), (2, ag_rf (x2)), (3, .int (x3)), (4, ag_rf (x4))] := (ag_c1 rfl (ag_c1 (ag_cat_rf _) (ag_c1 (ag_cat_rf _) (ag_c1 rfl (ag_c1 (ag_cat_rf _) ag_c0)))))
  refine gc_istore d_Rd_read_108 (by decide) hc ?_
  replace hc := ag_cs (i := 5) (v := .int (s0)) hc rfl
  refine gc_aload_n (r := (x1)) d_Rd_read_110 rfl ?_
  obtain ⟨a3, ea3, hyp⟩ := md_bd hyp
  obtain ⟨r3, er3, hyp⟩ := md_bd hyp
  refine gc_callv (r := (x1)) (as := []) d_Rd_read_111 ml_Rd_55 gw_299 rfl sl_Ln_sign ea3 (Nat.le_of_ble_eq_true rfl) (w_Ln_sign hC (d := d) (by omega) er3) (fun v3 h3 q3 => ?_)
  obtain ⟨rfl, rfl⟩ := q3
  refine ag_if_ne d_Rd_read_114 rfl (fun q => ?_) (fun q => ?_)
  · replace hyp := md_ifn q hyp
    exact ag_dr (ag_d1 rfl ag_d0) (w_Rd_read_131 hC hH hyp)
  · replace hyp := md_ifp q hyp
    refine gc_aload_n (r := (some (a))) d_Rd_read_117 rfl ?_
    obtain ⟨g6, eg6, hyp⟩ := md_bd hyp
    refine gc_geti (r := (some (a))) d_Rd_read_118 fr_Rd_24 eg6 ?_
    refine gc_aload_n (r := (some (a))) d_Rd_read_121 rfl ?_
    obtain ⟨g8, eg8, hyp⟩ := md_bd hyp
    refine gc_geti (r := (some (a))) d_Rd_read_122 fr_Rd_27 eg8 ?_
    refine ag_iconst d_Rd_read_125 ?_
    refine ag_ixor d_Rd_read_126 ?_
    refine ag_iand d_Rd_read_127 ?_
    refine ag_if_eq d_Rd_read_128 rfl (fun q => ?_) (fun q => ?_)
    · replace hyp := md_ifp q hyp
      obtain ⟨q13, hyp⟩ := md_ifs hyp
      refine gc_new (ci := 7) hC d_Rd_read_133 gw_455 gw_456 gw_16 rfl nf_Cl q13 ?_
      refine ag_dup d_Rd_read_136 rfl ?_
      refine ag_iload_n d_Rd_read_137 rfl ?_
      refine ag_iload d_Rd_read_138 rfl ?_
      refine gc_aload_n (r := (x2)) d_Rd_read_140 rfl ?_
      refine gc_aload (r := (x4)) d_Rd_read_141 rfl ?_
      refine gc_aload_n (r := (some (a))) d_Rd_read_143 rfl ?_
      obtain ⟨g20, eg20, hyp⟩ := md_bd hyp
      refine gc_getr (r := (some (a))) d_Rd_read_144 fr_Rd_9 eg20 ?_
      refine gc_aload_n (r := (some (a))) d_Rd_read_147 rfl ?_
      obtain ⟨g22, eg22, hyp⟩ := md_bd hyp
      refine gc_geti (r := (some (a))) d_Rd_read_148 fr_Rd_21 eg22 ?_
      obtain ⟨r23, er23, hyp⟩ := md_bd hyp
      refine ag_calls (as := [ag_rf (g20), .int (g22)]) d_Rd_read_151 ml_Rd_61 gw_458 (ag_w9 (ag_v1 (ag_cat_rf _) (ag_v1 (ag_cat_rf _) (ag_v1 rfl (ag_v1 rfl (ag_v1 rfl (ag_v1 rfl ag_v0)))))) (Nat.le_of_ble_eq_true rfl)) (w_Ar_copyOf3 hC (d := d) (by omega) er23) (fun v23 h23 q23 => ?_)
      obtain ⟨rfl, rfl⟩ := q23
      obtain ⟨r24, er24, hyp⟩ := md_bd hyp
      refine ag_calli (a := r3.2.1) (as := [.int (x3), .int (s0), ag_rf (x2), ag_rf (x4), ag_rf (r23.1)]) d_Rd_read_154 ml_Rd_67 gw_468 rfl rfl (Nat.le_of_ble_eq_true rfl) (w_Cl_init hC (d := d) (by omega) er24) (fun v24 h24 q24 => ?_)
      obtain ⟨rfl, rfl⟩ := q24
      cases hyp
      exact gc_aret (r := (some (r3.2.1))) d_Rd_read_157 rfl (Or.inl ⟨_, rfl⟩) ⟨rfl, rfl⟩
    · replace hyp := md_ifn q hyp
      exact ag_dr (ag_d1 rfl ag_d0) (w_Rd_read_131 hC hH hyp)
theorem w_Rd_read_107 {l : Launch} {G : ag_G} {d N : Nat} {C : Nat × Nat} {a : Nat} (hC : ag_cN G = C.1 ∧ ag_cS G = C.2) (hH : 20 ≤ d) {x1 : Option Nat} {x2 : Option Nat} {x3 : Int32} {x4 : Option Nat} {h : ag_H} {res : (Option Nat) × ag_H} (hyp : fn_Rd_read_107 N C a x1 x2 x3 x4 h = some res) : ag_ev gc_P l G m_Rd_read (d + 1) (ag_ret gc_P G (fun v h' => v = some (ag_rf res.1) ∧ h' = res.2)) 107 [(0, .ref a), (1, ag_rf (x1)), (2, ag_rf (x2)), (3, .int (x3)), (4, ag_rf (x4))] [] h := by
  unfold fn_Rd_read_107 at hyp
  have hc : ag_C1 [(0, .ref a), (1, ag_rf (x1)), (2, ag_rf (x2)), (3, .int (x3)), (4, ag_rf (x4))] := (ag_c1 rfl (ag_c1 (ag_cat_rf _) (ag_c1 (ag_cat_rf _) (ag_c1 rfl (ag_c1 (ag_cat_rf _) ag_c0)))))
  refine ag_iconst d_Rd_read_107 ?_
  exact ag_dr (ag_d1 rfl (ag_d1 rfl (ag_d1 rfl (ag_d1 rfl (ag_d1 rfl ag_d0))))) (w_Rd_read_108 hC hH hyp)
theorem w_Rd_read_90 {l : Launch} {G : ag_G} {d N : Nat} {C : Nat × Nat} {a : Nat} (hC : ag_cN G = C.1 ∧ ag_cS G = C.2) (hH : 20 ≤ d) {x1 : Option Nat} {x2 : Option Nat} {x3 : Int32} {x4 : Option Nat} {h : ag_H} {res : (Option Nat) × ag_H} (hyp : fn_Rd_read_90 N C a x1 x2 x3 x4 h = some res) : ag_ev gc_P l G m_Rd_read (d + 1) (ag_ret gc_P G (fun v h' => v = some (ag_rf res.1) ∧ h' = res.2)) 90 [(0, .ref a), (1, ag_rf (x1)), (2, ag_rf (x2)), (3, .int (x3)), (4, ag_rf (x4))] [] h := by
  unfold fn_Rd_read_90 at hyp
  have hc : ag_C1 [(0, .ref a), (1, ag_rf (x1)), (2, ag_rf (x2)), (3, .int (x3)), (4, ag_rf (x4))] := (ag_c1 rfl (ag_c1 (ag_cat_rf _) (ag_c1 (ag_cat_rf _) (ag_c1 rfl (ag_c1 (ag_cat_rf _) ag_c0)))))
  refine ag_iload_n d_Rd_read_90 rfl ?_
  refine ag_if_eq d_Rd_read_91 rfl (fun q => ?_) (fun q => ?_)
  · replace hyp := md_ifp q hyp
    exact ag_dr (ag_d1 rfl (ag_d1 rfl (ag_d1 rfl (ag_d1 rfl (ag_d1 rfl ag_d0))))) (w_Rd_read_107 hC hH hyp)
  · replace hyp := md_ifn q hyp
    refine gc_aload_n (r := (x1)) d_Rd_read_94 rfl ?_
    refine ag_bipush d_Rd_read_95 ?_
    obtain ⟨a5, ea5, hyp⟩ := md_bd hyp
    obtain ⟨r5, er5, hyp⟩ := md_bd hyp
    refine gc_callv (r := (x1)) (as := [.int ((Int8.ofInt (42)).toInt32)]) d_Rd_read_97 ml_Rd_44 gw_295 rfl sl_Ln_takes ea5 (Nat.le_of_ble_eq_true rfl) (w_Ln_takes hC (d := d) (by omega) er5) (fun v5 h5 q5 => ?_)
    obtain ⟨rfl, rfl⟩ := q5
    refine ag_if_eq d_Rd_read_100 rfl (fun q => ?_) (fun q => ?_)
    · replace hyp := md_ifp q hyp
      exact ag_dr (ag_d1 rfl (ag_d1 rfl (ag_d1 rfl (ag_d1 rfl (ag_d1 rfl ag_d0))))) (w_Rd_read_107 hC hH hyp)
    · replace hyp := md_ifn q hyp
      refine ag_iconst d_Rd_read_103 ?_
      refine ag_goto d_Rd_read_104 rfl ?_
      exact ag_dr (ag_d1 rfl (ag_d1 rfl (ag_d1 rfl (ag_d1 rfl (ag_d1 rfl ag_d0))))) (w_Rd_read_108 hC hH hyp)
theorem w_Rd_read_65 {l : Launch} {G : ag_G} {d N : Nat} {C : Nat × Nat} {a : Nat} (hC : ag_cN G = C.1 ∧ ag_cS G = C.2) (hH : 20 ≤ d) {x1 : Option Nat} {x2 : Option Nat} {x3 : Int32} {h : ag_H} {res : (Option Nat) × ag_H} (hyp : fn_Rd_read_65 N C a x1 x2 x3 h = some res) : ag_ev gc_P l G m_Rd_read (d + 1) (ag_ret gc_P G (fun v h' => v = some (ag_rf res.1) ∧ h' = res.2)) 65 [(0, .ref a), (1, ag_rf (x1)), (2, ag_rf (x2)), (3, .int (x3))] [] h := by
  unfold fn_Rd_read_65 at hyp
  have hc : ag_C1 [(0, .ref a), (1, ag_rf (x1)), (2, ag_rf (x2)), (3, .int (x3))] := (ag_c1 rfl (ag_c1 (ag_cat_rf _) (ag_c1 (ag_cat_rf _) (ag_c1 rfl ag_c0))))
  obtain ⟨q1, hyp⟩ := md_ifs hyp
  refine gc_new (ci := 11) hC d_Rd_read_65 gw_354 gw_114 gw_9 rfl nf_AL q1 ?_
  refine ag_dup d_Rd_read_68 rfl ?_
  obtain ⟨r3, er3, hyp⟩ := md_bd hyp
  refine ag_calli (a := h.1) (as := []) d_Rd_read_69 ml_Rd_50 gw_116 rfl rfl (Nat.le_of_ble_eq_true rfl) (w_AL_init hC (d := d) (by omega) er3) (fun v3 h3 q3 => ?_)
  obtain ⟨rfl, rfl⟩ := q3
  refine gc_astore0 (r := (some (h.1))) d_Rd_read_72 (by decide) hc ?_
  replace hc := ag_cs (i := 4) (v := ag_rf (some (h.1))) hc (ag_cat_rf _)
  refine ag_iload_n d_Rd_read_74 rfl ?_
  refine ag_if_eq d_Rd_read_75 rfl (fun q => ?_) (fun q => ?_)
  · replace hyp := md_ifp q hyp
    exact ag_dr (ag_d1 rfl (ag_d1 rfl (ag_d1 rfl (ag_d1 rfl (ag_d1 rfl ag_d0))))) (w_Rd_read_90 hC hH hyp)
  · replace hyp := md_ifn q hyp
    refine gc_aload_n (r := (some (a))) d_Rd_read_78 rfl ?_
    refine gc_aload_n (r := (x1)) d_Rd_read_79 rfl ?_
    refine gc_aload (r := ((some (h.1)))) d_Rd_read_80 rfl ?_
    obtain ⟨a10, ea10, hyp⟩ := md_bd hyp
    obtain ⟨r10, er10, hyp⟩ := md_bd hyp
    refine gc_callv (r := (some (a))) (as := [ag_rf (x1), ag_rf ((some (h.1)))]) d_Rd_read_82 ml_Rd_51 gw_358 rfl sl_Rd_readBody ea10 (Nat.le_of_ble_eq_true rfl) (w_Rd_readBody hC (d := d) (by omega) er10) (fun v10 h10 q10 => ?_)
    obtain ⟨rfl, rfl⟩ := q10
    refine ag_if_ne d_Rd_read_85 rfl (fun q => ?_) (fun q => ?_)
    · replace hyp := md_ifn q hyp
      exact ag_dr (ag_d1 rfl (ag_d1 rfl (ag_d1 rfl (ag_d1 rfl (ag_d1 rfl ag_d0))))) (w_Rd_read_90 hC hH hyp)
    · replace hyp := md_ifp q hyp
      refine ag_null d_Rd_read_88 ?_
      cases hyp
      exact gc_aret (r := (none)) d_Rd_read_89 rfl (Or.inl ⟨_, rfl⟩) ⟨rfl, rfl⟩
theorem w_Rd_read_64 {l : Launch} {G : ag_G} {d N : Nat} {C : Nat × Nat} {a : Nat} (hC : ag_cN G = C.1 ∧ ag_cS G = C.2) (hH : 20 ≤ d) {x1 : Option Nat} {x2 : Option Nat} {s0 : Int32} {h : ag_H} {res : (Option Nat) × ag_H} (hyp : fn_Rd_read_64 N C a x1 x2 s0 h = some res) : ag_ev gc_P l G m_Rd_read (d + 1) (ag_ret gc_P G (fun v h' => v = some (ag_rf res.1) ∧ h' = res.2)) 64 [(0, .ref a), (1, ag_rf (x1)), (2, ag_rf (x2))] [.int (s0)] h := by
  unfold fn_Rd_read_64 at hyp
  have hc : ag_C1 [(0, .ref a), (1, ag_rf (x1)), (2, ag_rf (x2))] := (ag_c1 rfl (ag_c1 (ag_cat_rf _) (ag_c1 (ag_cat_rf _) ag_c0)))
  refine gc_istore_n d_Rd_read_64 (by decide) hc ?_
  replace hc := ag_cs (i := 3) (v := .int (s0)) hc rfl
  exact ag_dr (ag_d1 rfl (ag_d1 rfl (ag_d1 rfl (ag_d1 rfl ag_d0)))) (w_Rd_read_65 hC hH hyp)
theorem w_Rd_read_0 {l : Launch} {G : ag_G} {d N : Nat} {C : Nat × Nat} {a : Nat} (hC : ag_cN G = C.1 ∧ ag_cS G = C.2) (hH : 20 ≤ d) {x1 : Option Nat} {h : ag_H} {res : (Option Nat) × ag_H} (hyp : fn_Rd_read_0 N C a x1 h = some res) : ag_ev gc_P l G m_Rd_read (d + 1) (ag_ret gc_P G (fun v h' => v = some (ag_rf res.1) ∧ h' = res.2)) 0 [(0, .ref a), (1, ag_rf (x1))] [] h := by
  unfold fn_Rd_read_0 at hyp
  have hc : ag_C1 [(0, .ref a), (1, ag_rf (x1))] := (ag_c1 rfl (ag_c1 (ag_cat_rf _) ag_c0))
  refine gc_aload_n (r := (x1)) d_Rd_read_0 rfl ?_
  refine ag_iconst d_Rd_read_1 ?_
  obtain ⟨h3, eh3, hyp⟩ := md_bd hyp
  refine gc_putf (r := (x1)) d_Rd_read_2 fl_Rd_15 (fun q => by cases q) eh3 ?_
  refine gc_aload_n (r := (some (a))) d_Rd_read_5 rfl ?_
  refine ag_iconst d_Rd_read_6 ?_
  obtain ⟨h6, eh6, hyp⟩ := md_bd hyp
  refine gc_putf (r := (some (a))) d_Rd_read_7 fl_Rd_21 (fun q => by cases q) eh6 ?_
  refine gc_aload_n (r := (some (a))) d_Rd_read_10 rfl ?_
  refine ag_iconst d_Rd_read_11 ?_
  obtain ⟨h9, eh9, hyp⟩ := md_bd hyp
  refine gc_putf (r := (some (a))) d_Rd_read_12 fl_Rd_24 (fun q => by cases q) eh9 ?_
  refine gc_aload_n (r := (some (a))) d_Rd_read_15 rfl ?_
  refine ag_iconst d_Rd_read_16 ?_
  obtain ⟨h12, eh12, hyp⟩ := md_bd hyp
  refine gc_putf (r := (some (a))) d_Rd_read_17 fl_Rd_27 (fun q => by cases q) eh12 ?_
  refine ag_null d_Rd_read_20 ?_
  refine gc_astore0_n (r := (none)) d_Rd_read_21 (by decide) hc ?_
  replace hc := ag_cs (i := 2) (v := ag_rf (none)) hc (ag_cat_rf _)
  refine gc_aload_n (r := (x1)) d_Rd_read_22 rfl ?_
  obtain ⟨r16, er16, hyp⟩ := md_bd hyp
  refine ag_calls (as := [ag_rf (x1)]) d_Rd_read_23 ml_Rd_30 gw_292 (Nat.le_of_ble_eq_true rfl) (w_Rd_readKind hC (d := d) (by omega) er16) (fun v16 h16 q16 => ?_)
  obtain ⟨rfl, rfl⟩ := q16
  refine gc_istore_n d_Rd_read_26 (by decide) hc ?_
  replace hc := ag_cs (i := 3) (v := .int (r16.1)) hc rfl
  refine ag_iload_n d_Rd_read_27 rfl ?_
  refine ag_if_ne d_Rd_read_28 rfl (fun q => ?_) (fun q => ?_)
  · replace hyp := md_ifn q hyp
    exact ag_dr (ag_d1 rfl (ag_d1 rfl (ag_d1 rfl (ag_d1 rfl ag_d0)))) (w_Rd_read_65 hC hH hyp)
  · replace hyp := md_ifp q hyp
    refine gc_aload_n (r := (x1)) d_Rd_read_31 rfl ?_
    obtain ⟨r21, er21, hyp⟩ := md_bd hyp
    refine ag_calls (as := [ag_rf (x1)]) d_Rd_read_32 ml_Rd_34 gw_303 (Nat.le_of_ble_eq_true rfl) (w_Rd_readAtom hC (d := d) (by omega) er21) (fun v21 h21 q21 => ?_)
    obtain ⟨rfl, rfl⟩ := q21
    refine gc_astore0_n (r := (r21.1)) d_Rd_read_35 (by decide) hc ?_
    replace hc := ag_cs (i := 2) (v := ag_rf (r21.1)) hc (ag_cat_rf _)
    refine gc_aload_n (r := ((r21.1))) d_Rd_read_36 rfl ?_
    refine gc_ifnonnull (r := ((r21.1))) d_Rd_read_37 rfl (fun q => ?_) (fun q => ?_)
    · replace hyp := md_ifn q hyp
      refine gc_aload_n (r := (some (a))) d_Rd_read_42 rfl ?_
      refine gc_aload_n (r := ((r21.1))) d_Rd_read_43 rfl ?_
      obtain ⟨a27, ea27, hyp⟩ := md_bd hyp
      obtain ⟨r27, er27, hyp⟩ := md_bd hyp
      refine gc_callv (r := ((r21.1))) (as := []) d_Rd_read_44 ml_Rd_38 gw_347 rfl sl_At_variables ea27 (Nat.le_of_ble_eq_true rfl) (w_At_variables hC (d := d) (by omega) er27) (fun v27 h27 q27 => ?_)
      obtain ⟨rfl, rfl⟩ := q27
      obtain ⟨h28, eh28, hyp⟩ := md_bd hyp
      refine gc_putf (r := (some (a))) d_Rd_read_47 fl_Rd_24 (fun q => by cases q) eh28 ?_
      refine gc_aload_n (r := (x1)) d_Rd_read_50 rfl ?_
      refine ag_bipush d_Rd_read_51 ?_
      obtain ⟨a31, ea31, hyp⟩ := md_bd hyp
      obtain ⟨r31, er31, hyp⟩ := md_bd hyp
      refine gc_callv (r := (x1)) (as := [.int ((Int8.ofInt (61)).toInt32)]) d_Rd_read_53 ml_Rd_44 gw_295 rfl sl_Ln_takes ea31 (Nat.le_of_ble_eq_true rfl) (w_Ln_takes hC (d := d) (by omega) er31) (fun v31 h31 q31 => ?_)
      obtain ⟨rfl, rfl⟩ := q31
      refine ag_if_eq d_Rd_read_56 rfl (fun q => ?_) (fun q => ?_)
      · replace hyp := md_ifp q hyp
        refine ag_iconst d_Rd_read_63 ?_
        exact ag_dr (ag_d1 rfl (ag_d1 rfl (ag_d1 rfl ag_d0))) (w_Rd_read_64 hC hH hyp)
      · replace hyp := md_ifn q hyp
        refine ag_iconst d_Rd_read_59 ?_
        refine ag_goto d_Rd_read_60 rfl ?_
        exact ag_dr (ag_d1 rfl (ag_d1 rfl (ag_d1 rfl ag_d0))) (w_Rd_read_64 hC hH hyp)
    · replace hyp := md_ifp q hyp
      refine ag_null d_Rd_read_40 ?_
      cases hyp
      exact gc_aret (r := (none)) d_Rd_read_41 rfl (Or.inl ⟨_, rfl⟩) ⟨rfl, rfl⟩
theorem w_Rd_read {l : Launch} {G : ag_G} {d N : Nat} {C : Nat × Nat} (hC : ag_cN G = C.1 ∧ ag_cS G = C.2) (hH : 20 + 1 ≤ d) {a : Nat} {p1 : Option Nat} {h : ag_H} {res : (Option Nat) × ag_H} (hyp : fn_Rd_read N C a p1 h = some res) : ag_Met gc_P l G m_Rd_read d [.ref a, ag_rf (p1)] h (fun v h' => v = some (ag_rf res.1) ∧ h' = res.2) := by
  obtain ⟨d, rfl, hG⟩ := md_dd hH
  exact ag_met0 (by decide) rfl (ag_v1 rfl (ag_v1 (ag_cat_rf _) ag_v0)) (Nat.le_of_ble_eq_true rfl) (ag_dr (ag_d1 rfl (ag_d1 rfl ag_d0)) (w_Rd_read_0 hC hG hyp))
def fn_GC_moveLine_0 (N : Nat) (C : Nat × Nat) (a : Nat) (x1 : Option Nat) (x2 : Option Nat) (h : ag_H) : Option ((Int32) × ag_H) := (ag_gr h (x2) 5 0).bind fun g2 => (ag_rc h (g2) 11).bind fun a4 => (fn_AL_add N C a4 (x1) h).bind fun r4 => (ag_gr r4.2 (some (a)) 0 0).bind fun g7 => (ag_pf r4.2 (ag_rf (g7)) 1 1 .int (.int (Int32.ofInt 0))).bind fun h9 => (ag_gi h9 (x1) 7 0).bind fun g11 => some ((g11), h9)
def fn_GC_moveLine (N : Nat) (C : Nat × Nat) (a : Nat) (p1 : Option Nat) (p2 : Option Nat) (h : ag_H) : Option ((Int32) × ag_H) := fn_GC_moveLine_0 N C a p1 p2 h
theorem w_GC_moveLine_0 {l : Launch} {G : ag_G} {d N : Nat} {C : Nat × Nat} {a : Nat} (hC : ag_cN G = C.1 ∧ ag_cS G = C.2) (hH : 5 ≤ d) {x1 : Option Nat} {x2 : Option Nat} {h : ag_H} {res : (Int32) × ag_H} (hyp : fn_GC_moveLine_0 N C a x1 x2 h = some res) : ag_ev gc_P l G m_GC_moveLine (d + 1) (ag_ret gc_P G (fun v h' => v = some (.int res.1) ∧ h' = res.2)) 0 [(0, .ref a), (1, ag_rf (x1)), (2, ag_rf (x2))] [] h := by
  unfold fn_GC_moveLine_0 at hyp
  have hc : ag_C1 [(0, .ref a), (1, ag_rf (x1)), (2, ag_rf (x2))] := (ag_c1 rfl (ag_c1 (ag_cat_rf _) (ag_c1 (ag_cat_rf _) ag_c0)))
  refine gc_aload_n (r := (x2)) d_GC_moveLine_0 rfl ?_
  obtain ⟨g2, eg2, hyp⟩ := md_bd hyp
  refine gc_getr (r := (x2)) d_GC_moveLine_1 fr_GC_82 eg2 ?_
  refine gc_aload_n (r := (x1)) d_GC_moveLine_4 rfl ?_
  obtain ⟨a4, ea4, hyp⟩ := md_bd hyp
  obtain ⟨r4, er4, hyp⟩ := md_bd hyp
  refine gc_callf (r := (g2)) (as := [ag_rf (x1)]) d_GC_moveLine_5 il_GC_224 ea4 (Nat.le_of_ble_eq_true rfl) (w_AL_add hC (d := d) (by omega) er4) (fun v4 h4 q4 => ?_)
  obtain ⟨rfl, rfl⟩ := q4
  refine ag_pop d_GC_moveLine_10 rfl ?_
  refine gc_aload_n (r := (some (a))) d_GC_moveLine_11 rfl ?_
  obtain ⟨g7, eg7, hyp⟩ := md_bd hyp
  refine gc_getr (r := (some (a))) d_GC_moveLine_12 fr_GC_10 eg7 ?_
  refine ag_iconst d_GC_moveLine_15 ?_
  obtain ⟨h9, eh9, hyp⟩ := md_bd hyp
  refine gc_putf (r := (g7)) d_GC_moveLine_16 fl_GC_64 (fun q => by cases q) eh9 ?_
  refine gc_aload_n (r := (x1)) d_GC_moveLine_19 rfl ?_
  obtain ⟨g11, eg11, hyp⟩ := md_bd hyp
  refine gc_geti (r := (x1)) d_GC_moveLine_20 fr_GC_74 eg11 ?_
  cases hyp
  exact ag_iret d_GC_moveLine_23 rfl rfl ⟨rfl, rfl⟩
theorem w_GC_moveLine {l : Launch} {G : ag_G} {d N : Nat} {C : Nat × Nat} (hC : ag_cN G = C.1 ∧ ag_cS G = C.2) (hH : 5 + 1 ≤ d) {a : Nat} {p1 : Option Nat} {p2 : Option Nat} {h : ag_H} {res : (Int32) × ag_H} (hyp : fn_GC_moveLine N C a p1 p2 h = some res) : ag_Met gc_P l G m_GC_moveLine d [.ref a, ag_rf (p1), ag_rf (p2)] h (fun v h' => v = some (.int res.1) ∧ h' = res.2) := by
  obtain ⟨d, rfl, hG⟩ := md_dd hH
  exact ag_met0 (by decide) rfl (ag_v1 rfl (ag_v1 (ag_cat_rf _) (ag_v1 (ag_cat_rf _) ag_v0))) (Nat.le_of_ble_eq_true rfl) (ag_dr (ag_d1 rfl (ag_d1 rfl (ag_d1 rfl ag_d0))) (w_GC_moveLine_0 hC hG hyp))
def fn_GC_clause_40 (N : Nat) (C : Nat × Nat) (a : Nat) (h : ag_H) : Option ((Int32 ⊕ Nat) × ag_H) := if h.1 + 1 ≤ C.1 ∧ h.2.1 + 6 ≤ C.2 then (some (.inr h.1, ag_nw h 6 (.inr (15, [])))) else none
def fn_GC_clause_0 (N : Nat) (C : Nat × Nat) (a : Nat) (h : ag_H) : Option ((Int32 ⊕ Nat) × ag_H) := (ag_gr h (some (a)) 0 1).bind fun g2 => (ag_gr h (some (a)) 0 0).bind fun g4 => (ag_rc h (g2) 2).bind fun a5 => (fn_Rd_read N C a5 (g4) h).bind fun r5 => if ((r5.1)) = none then (if r5.2.1 + 1 ≤ C.1 ∧ r5.2.2.1 + 6 ≤ C.2 then (some (.inr r5.2.1, ag_nw r5.2 6 (.inr (12, [])))) else none) else ((ag_gi r5.2 ((r5.1)) 7 0).bind fun g10 => if (g10) = (Int32.ofInt 4) then (fn_GC_clause_40 N C a  r5.2) else ((ag_gi r5.2 ((r5.1)) 7 0).bind fun g14 => if (g14) = (Int32.ofInt 5) then (fn_GC_clause_40 N C a  r5.2) else ((ag_gr r5.2 (some (a)) 0 6).bind fun g18 => (ag_gr r5.2 (g18) 5 0).bind fun g19 => (ag_rc r5.2 (g19) 11).bind fun a20 => (fn_AL_size N C a20  r5.2).bind fun r20 => if (r20.1) < (Int32.ofInt 5) then ((ag_gr r20.2 (some (a)) 0 6).bind fun g26 => (ag_rc r20.2 (some (a)) 0).bind fun a27 => (fn_GC_moveLine N C a27 ((r5.1)) (g26) r20.2).bind fun r27 => some (.inl (r27.1), r27.2)) else (if r20.2.1 + 1 ≤ C.1 ∧ r20.2.2.1 + 6 ≤ C.2 then (some (.inr r20.2.1, ag_nw r20.2 6 (.inr (13, [])))) else none))))
def fn_GC_clause (N : Nat) (C : Nat × Nat) (a : Nat) (h : ag_H) : Option ((Int32 ⊕ Nat) × ag_H) := fn_GC_clause_0 N C a h
theorem w_GC_clause_40 {l : Launch} {G : ag_G} {d N : Nat} {C : Nat × Nat} {a : Nat} (hC : ag_cN G = C.1 ∧ ag_cS G = C.2) (htr : ∀ e : Env, l.admits e → e.platform.stackTraces = false) (hH : 21 ≤ d) {h : ag_H} {res : (Int32 ⊕ Nat) × ag_H} (hyp : fn_GC_clause_40 N C a h = some res) : ag_ev gc_P l G m_GC_clause (d + 1) (ag_out gc_P G res.1 res.2) 40 [(0, .ref a)] [] h := by
  unfold fn_GC_clause_40 at hyp
  have hc : ag_C1 [(0, .ref a)] := (ag_c1 rfl ag_c0)
  obtain ⟨q1, hyp⟩ := md_ifs hyp
  cases hyp
  exact ag_throw (ci := 15) (names := gc_sup) d_GC_clause_40 d_GC_clause_43 d_GC_clause_44 d_GC_clause_47 rfl gw_557 gw_558 gw_21 rfl (by decide +kernel) (by decide +kernel) xw_GC_81 (by decide) htr (Nat.le_of_ble_eq_true rfl) (by rw [hC.1]; exact q1.1) (by rw [hC.2]; exact q1.2) ⟨rfl, rfl⟩
theorem w_GC_clause_0 {l : Launch} {G : ag_G} {d N : Nat} {C : Nat × Nat} {a : Nat} (hC : ag_cN G = C.1 ∧ ag_cS G = C.2) (htr : ∀ e : Env, l.admits e → e.platform.stackTraces = false) (hH : 21 ≤ d) {h : ag_H} {res : (Int32 ⊕ Nat) × ag_H} (hyp : fn_GC_clause_0 N C a h = some res) : ag_ev gc_P l G m_GC_clause (d + 1) (ag_out gc_P G res.1 res.2) 0 [(0, .ref a)] [] h := by
  unfold fn_GC_clause_0 at hyp
  have hc : ag_C1 [(0, .ref a)] := (ag_c1 rfl ag_c0)
  refine gc_aload_n (r := (some (a))) d_GC_clause_0 rfl ?_
  obtain ⟨g2, eg2, hyp⟩ := md_bd hyp
  refine gc_getr (r := (some (a))) d_GC_clause_1 fr_GC_19 eg2 ?_
  refine gc_aload_n (r := (some (a))) d_GC_clause_4 rfl ?_
  obtain ⟨g4, eg4, hyp⟩ := md_bd hyp
  refine gc_getr (r := (some (a))) d_GC_clause_5 fr_GC_10 eg4 ?_
  obtain ⟨a5, ea5, hyp⟩ := md_bd hyp
  obtain ⟨r5, er5, hyp⟩ := md_bd hyp
  refine gc_callv (r := (g2)) (as := [ag_rf (g4)]) d_GC_clause_8 ml_GC_67 gw_288 rfl sl_Rd_read ea5 (Nat.le_of_ble_eq_true rfl) (w_Rd_read hC (d := d) (by omega) er5) (fun v5 h5 q5 => ?_)
  obtain ⟨rfl, rfl⟩ := q5
  refine gc_astore0_n (r := (r5.1)) d_GC_clause_11 (by decide) hc ?_
  replace hc := ag_cs (i := 1) (v := ag_rf (r5.1)) hc (ag_cat_rf _)
  refine gc_aload_n (r := ((r5.1))) d_GC_clause_12 rfl ?_
  refine gc_ifnonnull (r := ((r5.1))) d_GC_clause_13 rfl (fun q => ?_) (fun q => ?_)
  · replace hyp := md_ifn q hyp
    refine gc_aload_n (r := ((r5.1))) d_GC_clause_24 rfl ?_
    obtain ⟨g10, eg10, hyp⟩ := md_bd hyp
    refine gc_geti (r := ((r5.1))) d_GC_clause_25 fr_GC_74 eg10 ?_
    refine ag_iconst d_GC_clause_28 ?_
    refine ag_icmp_eq d_GC_clause_29 rfl (fun q => ?_) (fun q => ?_)
    · replace hyp := md_ifp q hyp
      exact ag_dr (ag_d1 rfl ag_d0) (w_GC_clause_40 hC htr hH hyp)
    · replace hyp := md_ifn q hyp
      refine gc_aload_n (r := ((r5.1))) d_GC_clause_32 rfl ?_
      obtain ⟨g14, eg14, hyp⟩ := md_bd hyp
      refine gc_geti (r := ((r5.1))) d_GC_clause_33 fr_GC_74 eg14 ?_
      refine ag_iconst d_GC_clause_36 ?_
      refine ag_icmp_ne d_GC_clause_37 rfl (fun q => ?_) (fun q => ?_)
      · replace hyp := md_ifn q hyp
        refine gc_aload_n (r := (some (a))) d_GC_clause_48 rfl ?_
        obtain ⟨g18, eg18, hyp⟩ := md_bd hyp
        refine gc_getr (r := (some (a))) d_GC_clause_49 fr_GC_47 eg18 ?_
        obtain ⟨g19, eg19, hyp⟩ := md_bd hyp
        refine gc_getr (r := (g18)) d_GC_clause_52 fr_GC_82 eg19 ?_
        obtain ⟨a20, ea20, hyp⟩ := md_bd hyp
        obtain ⟨r20, er20, hyp⟩ := md_bd hyp
        refine gc_callf (r := (g19)) (as := []) d_GC_clause_55 il_GC_85 ea20 (Nat.le_of_ble_eq_true rfl) (w_AL_size hC (d := d) (by omega) er20) (fun v20 h20 q20 => ?_)
        obtain ⟨rfl, rfl⟩ := q20
        refine ag_iconst d_GC_clause_60 ?_
        refine ag_icmp_lt d_GC_clause_61 rfl (fun q => ?_) (fun q => ?_)
        · replace hyp := md_ifp q hyp
          refine gc_aload_n (r := (some (a))) d_GC_clause_72 rfl ?_
          refine gc_aload_n (r := ((r5.1))) d_GC_clause_73 rfl ?_
          refine gc_aload_n (r := (some (a))) d_GC_clause_74 rfl ?_
          obtain ⟨g26, eg26, hyp⟩ := md_bd hyp
          refine gc_getr (r := (some (a))) d_GC_clause_75 fr_GC_47 eg26 ?_
          obtain ⟨a27, ea27, hyp⟩ := md_bd hyp
          obtain ⟨r27, er27, hyp⟩ := md_bd hyp
          refine gc_callv (r := (some (a))) (as := [ag_rf ((r5.1)), ag_rf (g26)]) d_GC_clause_78 ml_GC_94 gw_589 rfl sl_GC_moveLine ea27 (Nat.le_of_ble_eq_true rfl) (w_GC_moveLine hC (d := d) (by omega) er27) (fun v27 h27 q27 => ?_)
          obtain ⟨rfl, rfl⟩ := q27
          cases hyp
          exact ag_iret d_GC_clause_81 rfl rfl ⟨rfl, rfl⟩
        · replace hyp := md_ifn q hyp
          obtain ⟨q29, hyp⟩ := md_ifs hyp
          cases hyp
          exact ag_throw (ci := 13) (names := gc_sup) d_GC_clause_64 d_GC_clause_67 d_GC_clause_68 d_GC_clause_71 rfl gw_572 gw_573 gw_22 rfl (by decide +kernel) (by decide +kernel) xw_GC_93 (by decide) htr (Nat.le_of_ble_eq_true rfl) (by rw [hC.1]; exact q29.1) (by rw [hC.2]; exact q29.2) ⟨rfl, rfl⟩
      · replace hyp := md_ifp q hyp
        exact ag_dr (ag_d1 rfl ag_d0) (w_GC_clause_40 hC htr hH hyp)
  · replace hyp := md_ifp q hyp
    obtain ⟨q30, hyp⟩ := md_ifs hyp
    cases hyp
    exact ag_throw (ci := 12) (names := gc_sup) d_GC_clause_16 d_GC_clause_19 d_GC_clause_20 d_GC_clause_23 rfl gw_493 gw_494 gw_20 rfl (by decide +kernel) (by decide +kernel) xw_GC_73 (by decide) htr (Nat.le_of_ble_eq_true rfl) (by rw [hC.1]; exact q30.1) (by rw [hC.2]; exact q30.2) ⟨rfl, rfl⟩
theorem w_GC_clause {l : Launch} {G : ag_G} {d N : Nat} {C : Nat × Nat} (hC : ag_cN G = C.1 ∧ ag_cS G = C.2) (htr : ∀ e : Env, l.admits e → e.platform.stackTraces = false) (hH : 21 + 1 ≤ d) {a : Nat} {h : ag_H} {x : Int32} {h' : ag_H} (hyp : fn_GC_clause N C a h = some (.inl x, h')) : ag_Met gc_P l G m_GC_clause d [.ref a] h (fun v h'' => v = some (.int x) ∧ h'' = h') := by
  obtain ⟨d, rfl, hG⟩ := md_dd hH
  exact ag_met (by decide) rfl (Nat.le_of_ble_eq_true rfl) (ag_dr (ag_d1 rfl ag_d0) (w_GC_clause_0 hC htr hG hyp))
theorem t_GC_clause {l : Launch} {G : ag_G} {d N : Nat} {C : Nat × Nat} (hC : ag_cN G = C.1 ∧ ag_cS G = C.2) (htr : ∀ e : Env, l.admits e → e.platform.stackTraces = false) (hH : 21 + 1 ≤ d) {a : Nat} {h : ag_H} {x : Nat} {h' : ag_H} (hyp : fn_GC_clause N C a h = some (.inr x, h')) : ag_MetT gc_P l G m_GC_clause d [.ref a] h (fun x' h'' => x' = x ∧ h'' = h') := by
  obtain ⟨d, rfl, hG⟩ := md_dd hH
  exact ag_metT (by decide) rfl (Nat.le_of_ble_eq_true rfl) (ag_dr (ag_d1 rfl ag_d0) (w_GC_clause_0 hC htr hG hyp))
