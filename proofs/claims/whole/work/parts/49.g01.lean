/-! Ln_digits, Rd_readTerm, Rd_readAtom, At_bit, At_variables, AS_hugeLength, AS_newLength, AL_grow2, AL_grow, AL_add2, AL_add, Rd_addStep, Rd_readFactor -/
def fn_Ln_digits_89 (N : Nat) (C : Nat × Nat) (a : Nat) (s0 : Int32) (h : ag_H) : Option ((Int32) × ag_H) := some ((s0), h)
def fn_Ln_digits_76 (N : Nat) (C : Nat × Nat) (a : Nat) (x1 : Int32) (x2 : Int32) (h : ag_H) : Option ((Int32) × ag_H) := (ag_gi h (some (a)) 1 2).bind fun g2 => if (g2) ≤ (x2) then (fn_Ln_digits_89 N C a (Int32.ofInt (-1)) h) else (fn_Ln_digits_89 N C a (x1) h)
def fn_Ln_digits_9 (N : Nat) (C : Nat × Nat) (a : Nat) : Nat → Int32 → Int32 → Int32 → ag_H → Option ((Int32) × ag_H)
  | 0, _, _, _, _ => none
  | n + 1, x1, x2, x3, h => (ag_gi h (some (a)) 1 1).bind fun g3 => if (g3) ≤ (x3) then (fn_Ln_digits_76 N C a (x1) (x2) h) else ((ag_gr h (some (a)) 1 0).bind fun g6 => (ag_ai h 1 (g6)).bind fun p8 => if md_in (x3) p8.1 = true then (if (p8.2 (x3).toNatClampNeg) < ((Int8.ofInt (48)).toInt32) then (fn_Ln_digits_76 N C a (x1) (x2) h) else ((ag_gr h (some (a)) 1 0).bind fun g12 => (ag_ai h 1 (g12)).bind fun p14 => if md_in (x3) p14.1 = true then (if ((Int8.ofInt (57)).toInt32) < (p14.2 (x3).toNatClampNeg) then (fn_Ln_digits_76 N C a (x1) (x2) h) else (if ((x3) - (x2)) < (Int32.ofInt 4) then ((ag_gr h (some (a)) 1 0).bind fun g26 => (ag_ai h 1 (g26)).bind fun p28 => if md_in (x3) p28.1 = true then ((ag_pf h (ag_rf (some (a))) 1 2 .int (.int ((x3) + (Int32.ofInt 1)))).bind fun h37 => fn_Ln_digits_9 N C a n (((x1) * ((Int8.ofInt (10)).toInt32)) + ((p28.2 (x3).toNatClampNeg) - ((Int8.ofInt (48)).toInt32))) (x2) ((x3) + Int32.ofInt (1)) h37) else none) else (some ((Int32.ofInt (-1)), h)))) else none)) else none)
theorem fe_Ln_digits_9 (N : Nat) (C : Nat × Nat) (a : Nat) (n : Nat) (x1 : Int32) (x2 : Int32) (x3 : Int32) (h : ag_H) : fn_Ln_digits_9 N C a (n + 1) x1 x2 x3 h = ((ag_gi h (some (a)) 1 1).bind fun g3 => if (g3) ≤ (x3) then (fn_Ln_digits_76 N C a (x1) (x2) h) else ((ag_gr h (some (a)) 1 0).bind fun g6 => (ag_ai h 1 (g6)).bind fun p8 => if md_in (x3) p8.1 = true then (if (p8.2 (x3).toNatClampNeg) < ((Int8.ofInt (48)).toInt32) then (fn_Ln_digits_76 N C a (x1) (x2) h) else ((ag_gr h (some (a)) 1 0).bind fun g12 => (ag_ai h 1 (g12)).bind fun p14 => if md_in (x3) p14.1 = true then (if ((Int8.ofInt (57)).toInt32) < (p14.2 (x3).toNatClampNeg) then (fn_Ln_digits_76 N C a (x1) (x2) h) else (if ((x3) - (x2)) < (Int32.ofInt 4) then ((ag_gr h (some (a)) 1 0).bind fun g26 => (ag_ai h 1 (g26)).bind fun p28 => if md_in (x3) p28.1 = true then ((ag_pf h (ag_rf (some (a))) 1 2 .int (.int ((x3) + (Int32.ofInt 1)))).bind fun h37 => fn_Ln_digits_9 N C a n (((x1) * ((Int8.ofInt (10)).toInt32)) + ((p28.2 (x3).toNatClampNeg) - ((Int8.ofInt (48)).toInt32))) (x2) ((x3) + Int32.ofInt (1)) h37) else none) else (some ((Int32.ofInt (-1)), h)))) else none)) else none)) := rfl
def fn_Ln_digits_0 (N : Nat) (C : Nat × Nat) (a : Nat) (h : ag_H) : Option ((Int32) × ag_H) := (ag_gi h (some (a)) 1 2).bind fun g4 => fn_Ln_digits_9 N C a N (Int32.ofInt 0) (g4) (g4) h
def fn_Ln_digits (N : Nat) (C : Nat × Nat) (a : Nat) (h : ag_H) : Option ((Int32) × ag_H) := fn_Ln_digits_0 N C a h
theorem w_Ln_digits_89 {l : Launch} {G : ag_G} {d N : Nat} {C : Nat × Nat} {a : Nat} (hC : ag_cN G = C.1 ∧ ag_cS G = C.2) {s0 : Int32} {h : ag_H} {res : (Int32) × ag_H} (hyp : fn_Ln_digits_89 N C a s0 h = some res) : ag_ev gc_P l G m_Ln_digits (d) (ag_ret gc_P G (fun v h' => v = some (.int res.1) ∧ h' = res.2)) 89 [(0, .ref a)] [.int (s0)] h := by
  unfold fn_Ln_digits_89 at hyp
  have hc : ag_C1 [(0, .ref a)] := (ag_c1 rfl ag_c0)
  cases hyp
  exact ag_iret d_Ln_digits_89 rfl rfl ⟨rfl, rfl⟩
theorem w_Ln_digits_76 {l : Launch} {G : ag_G} {d N : Nat} {C : Nat × Nat} {a : Nat} (hC : ag_cN G = C.1 ∧ ag_cS G = C.2) {x1 : Int32} {x2 : Int32} {h : ag_H} {res : (Int32) × ag_H} (hyp : fn_Ln_digits_76 N C a x1 x2 h = some res) : ag_ev gc_P l G m_Ln_digits (d) (ag_ret gc_P G (fun v h' => v = some (.int res.1) ∧ h' = res.2)) 76 [(0, .ref a), (1, .int (x1)), (2, .int (x2))] [] h := by
  unfold fn_Ln_digits_76 at hyp
  have hc : ag_C1 [(0, .ref a), (1, .int (x1)), (2, .int (x2))] := (ag_c1 rfl (ag_c1 rfl (ag_c1 rfl ag_c0)))
  refine gc_aload_n (r := (some (a))) d_Ln_digits_76 rfl ?_
  obtain ⟨g2, eg2, hyp⟩ := md_bd hyp
  refine gc_geti (r := (some (a))) d_Ln_digits_77 fr_Ln_19 eg2 ?_
  refine ag_iload_n d_Ln_digits_80 rfl ?_
  refine ag_icmp_le d_Ln_digits_81 rfl (fun q => ?_) (fun q => ?_)
  · replace hyp := md_ifp q hyp
    refine ag_iconst d_Ln_digits_88 ?_
    exact ag_dr (ag_d1 rfl ag_d0) (w_Ln_digits_89 hC hyp)
  · replace hyp := md_ifn q hyp
    refine ag_iload_n d_Ln_digits_84 rfl ?_
    refine ag_goto d_Ln_digits_85 rfl ?_
    exact ag_dr (ag_d1 rfl ag_d0) (w_Ln_digits_89 hC hyp)
theorem w_Ln_digits_9 {l : Launch} {G : ag_G} {d N : Nat} {C : Nat × Nat} {a : Nat} (hC : ag_cN G = C.1 ∧ ag_cS G = C.2) : ∀ (n : Nat) (res : (Int32) × ag_H) (x1 : Int32) (x2 : Int32) (x3 : Int32) (h : ag_H) , fn_Ln_digits_9 N C a n x1 x2 x3 h = some res → ag_ev gc_P l G m_Ln_digits (d) (ag_ret gc_P G (fun v h' => v = some (.int res.1) ∧ h' = res.2)) 9 [(0, .ref a), (1, .int (x1)), (2, .int (x2)), (3, .int (x3))] [] h := by
  intro n
  induction n with
  | zero =>
    intro res x1 x2 x3 h hyp
    cases hyp
  | succ n ih =>
    intro res x1 x2 x3 h hyp
    rw [fe_Ln_digits_9] at hyp
    have hc : ag_C1 [(0, .ref a), (1, .int (x1)), (2, .int (x2)), (3, .int (x3))] := (ag_c1 rfl (ag_c1 rfl (ag_c1 rfl (ag_c1 rfl ag_c0))))
    refine ag_iload_n d_Ln_digits_9 rfl ?_
    refine gc_aload_n (r := (some (a))) d_Ln_digits_10 rfl ?_
    obtain ⟨g3, eg3, hyp⟩ := md_bd hyp
    refine gc_geti (r := (some (a))) d_Ln_digits_11 fr_Ln_15 eg3 ?_
    refine ag_icmp_ge d_Ln_digits_14 rfl (fun q => ?_) (fun q => ?_)
    · replace hyp := md_ifp q hyp
      exact ag_dr (ag_d1 rfl (ag_d1 rfl (ag_d1 rfl ag_d0))) (w_Ln_digits_76 hC hyp)
    · replace hyp := md_ifn q hyp
      refine gc_aload_n (r := (some (a))) d_Ln_digits_17 rfl ?_
      obtain ⟨g6, eg6, hyp⟩ := md_bd hyp
      refine gc_getr (r := (some (a))) d_Ln_digits_18 fr_Ln_9 eg6 ?_
      refine ag_iload_n d_Ln_digits_21 rfl ?_
      obtain ⟨p8, ep8, hyp⟩ := md_bd hyp
      obtain ⟨q8, hyp⟩ := md_ifs hyp
      refine gc_cld (r := (g6)) d_Ln_digits_22 ep8 q8 ?_
      refine ag_bipush d_Ln_digits_23 ?_
      refine ag_icmp_lt d_Ln_digits_25 rfl (fun q => ?_) (fun q => ?_)
      · replace hyp := md_ifp q hyp
        exact ag_dr (ag_d1 rfl (ag_d1 rfl (ag_d1 rfl ag_d0))) (w_Ln_digits_76 hC hyp)
      · replace hyp := md_ifn q hyp
        refine gc_aload_n (r := (some (a))) d_Ln_digits_28 rfl ?_
        obtain ⟨g12, eg12, hyp⟩ := md_bd hyp
        refine gc_getr (r := (some (a))) d_Ln_digits_29 fr_Ln_9 eg12 ?_
        refine ag_iload_n d_Ln_digits_32 rfl ?_
        obtain ⟨p14, ep14, hyp⟩ := md_bd hyp
        obtain ⟨q14, hyp⟩ := md_ifs hyp
        refine gc_cld (r := (g12)) d_Ln_digits_33 ep14 q14 ?_
        refine ag_bipush d_Ln_digits_34 ?_
        refine ag_icmp_gt d_Ln_digits_36 rfl (fun q => ?_) (fun q => ?_)
        · replace hyp := md_ifp q hyp
          exact ag_dr (ag_d1 rfl (ag_d1 rfl (ag_d1 rfl ag_d0))) (w_Ln_digits_76 hC hyp)
        · replace hyp := md_ifn q hyp
          refine ag_iload_n d_Ln_digits_39 rfl ?_
          refine ag_iload_n d_Ln_digits_40 rfl ?_
          refine ag_isub d_Ln_digits_41 ?_
          refine ag_iconst d_Ln_digits_42 ?_
          refine ag_icmp_lt d_Ln_digits_43 rfl (fun q => ?_) (fun q => ?_)
          · replace hyp := md_ifp q hyp
            refine ag_iload_n d_Ln_digits_48 rfl ?_
            refine ag_bipush d_Ln_digits_49 ?_
            refine ag_imul d_Ln_digits_51 ?_
            refine gc_aload_n (r := (some (a))) d_Ln_digits_52 rfl ?_
            obtain ⟨g26, eg26, hyp⟩ := md_bd hyp
            refine gc_getr (r := (some (a))) d_Ln_digits_53 fr_Ln_9 eg26 ?_
            refine ag_iload_n d_Ln_digits_56 rfl ?_
            obtain ⟨p28, ep28, hyp⟩ := md_bd hyp
            obtain ⟨q28, hyp⟩ := md_ifs hyp
            refine gc_cld (r := (g26)) d_Ln_digits_57 ep28 q28 ?_
            refine ag_bipush d_Ln_digits_58 ?_
            refine ag_isub d_Ln_digits_60 ?_
            refine ag_iadd d_Ln_digits_61 ?_
            refine gc_istore_n d_Ln_digits_62 (by decide) hc ?_
            replace hc := ag_cs (i := 1) (v := .int (((x1) * ((Int8.ofInt (10)).toInt32)) + ((p28.2 (x3).toNatClampNeg) - ((Int8.ofInt (48)).toInt32)))) hc rfl
            refine gc_aload_n (r := (some (a))) d_Ln_digits_63 rfl ?_
            refine ag_iload_n d_Ln_digits_64 rfl ?_
            refine ag_iconst d_Ln_digits_65 ?_
            refine ag_iadd d_Ln_digits_66 ?_
            obtain ⟨h37, eh37, hyp⟩ := md_bd hyp
            refine gc_putf (r := (some (a))) d_Ln_digits_67 fl_Ln_19 (fun q => by cases q) eh37 ?_
            refine gc_iinc d_Ln_digits_70 rfl (by decide) hc ?_
            replace hc := ag_cs (i := 3) (v := .int ((x3) + Int32.ofInt (1))) hc rfl
            refine ag_goto d_Ln_digits_73 rfl ?_
            exact ag_dr (ag_d1 rfl (ag_d1 rfl (ag_d1 rfl (ag_d1 rfl ag_d0)))) (ih _ _ _ _ _ hyp)
          · replace hyp := md_ifn q hyp
            refine ag_iconst d_Ln_digits_46 ?_
            cases hyp
            exact ag_iret d_Ln_digits_47 rfl rfl ⟨rfl, rfl⟩
theorem w_Ln_digits_0 {l : Launch} {G : ag_G} {d N : Nat} {C : Nat × Nat} {a : Nat} (hC : ag_cN G = C.1 ∧ ag_cS G = C.2) {h : ag_H} {res : (Int32) × ag_H} (hyp : fn_Ln_digits_0 N C a h = some res) : ag_ev gc_P l G m_Ln_digits (d) (ag_ret gc_P G (fun v h' => v = some (.int res.1) ∧ h' = res.2)) 0 [(0, .ref a)] [] h := by
  unfold fn_Ln_digits_0 at hyp
  have hc : ag_C1 [(0, .ref a)] := (ag_c1 rfl ag_c0)
  refine ag_iconst d_Ln_digits_0 ?_
  refine gc_istore_n d_Ln_digits_1 (by decide) hc ?_
  replace hc := ag_cs (i := 1) (v := .int (Int32.ofInt 0)) hc rfl
  refine gc_aload_n (r := (some (a))) d_Ln_digits_2 rfl ?_
  obtain ⟨g4, eg4, hyp⟩ := md_bd hyp
  refine gc_geti (r := (some (a))) d_Ln_digits_3 fr_Ln_19 eg4 ?_
  refine gc_istore_n d_Ln_digits_6 (by decide) hc ?_
  replace hc := ag_cs (i := 2) (v := .int (g4)) hc rfl
  refine ag_iload_n d_Ln_digits_7 rfl ?_
  refine gc_istore_n d_Ln_digits_8 (by decide) hc ?_
  replace hc := ag_cs (i := 3) (v := .int (g4)) hc rfl
  exact ag_dr (ag_d1 rfl (ag_d1 rfl (ag_d1 rfl (ag_d1 rfl ag_d0)))) (w_Ln_digits_9 hC N _ _ _ _ _ hyp)
theorem w_Ln_digits {l : Launch} {G : ag_G} {d N : Nat} {C : Nat × Nat} (hC : ag_cN G = C.1 ∧ ag_cS G = C.2) (hH : 0 ≤ d) {a : Nat} {h : ag_H} {res : (Int32) × ag_H} (hyp : fn_Ln_digits N C a h = some res) : ag_Met gc_P l G m_Ln_digits d [.ref a] h (fun v h' => v = some (.int res.1) ∧ h' = res.2) := by
  exact ag_met (by decide) rfl (Nat.le_of_ble_eq_true rfl) (ag_dr (ag_d1 rfl ag_d0) (w_Ln_digits_0 hC hyp))
def fn_Rd_readTerm_59 (N : Nat) (C : Nat × Nat) (s0 : Int32) (h : ag_H) : Option ((Int32) × ag_H) := some ((s0), h)
def fn_Rd_readTerm_0 (N : Nat) (C : Nat × Nat) (x0 : Option Nat) (h : ag_H) : Option ((Int32) × ag_H) := (ag_rc h (x0) 1).bind fun a2 => (fn_Ln_sign N C a2  h).bind fun r2 => (fn_Rd_isVariable N C (r2.1) r2.2).bind fun r5 => if (r5.1) = (0) then ((ag_rc r5.2 (x0) 1).bind fun a9 => (fn_Ln_takes N C a9 ((Int8.ofInt (45)).toInt32) r5.2).bind fun r9 => (ag_rc r9.2 (x0) 1).bind fun a12 => (fn_Ln_digits N C a12  r9.2).bind fun r12 => if (0) ≤ (r12.1) then (if (r9.1) = (0) then (fn_Rd_readTerm_59 N C (r12.1) r12.2) else (fn_Rd_readTerm_59 N C (-(r12.1)) r12.2)) else (some (((-1048576 : Int32)), r12.2))) else ((ag_gi r5.2 (x0) 1 2).bind fun g26 => (ag_pf r5.2 (ag_rf (x0)) 1 2 .int (.int ((g26) + (Int32.ofInt 1)))).bind fun h29 => some ((((1048576 : Int32)) + ((r2.1) - ((Int8.ofInt (65)).toInt32))), h29))
def fn_Rd_readTerm (N : Nat) (C : Nat × Nat) (p0 : Option Nat) (h : ag_H) : Option ((Int32) × ag_H) := fn_Rd_readTerm_0 N C p0 h
theorem w_Rd_readTerm_59 {l : Launch} {G : ag_G} {d N : Nat} {C : Nat × Nat} (hC : ag_cN G = C.1 ∧ ag_cS G = C.2) (hH : 1 ≤ d) {s0 : Int32} {h : ag_H} {res : (Int32) × ag_H} (hyp : fn_Rd_readTerm_59 N C s0 h = some res) : ag_ev gc_P l G m_Rd_readTerm (d + 1) (ag_ret gc_P G (fun v h' => v = some (.int res.1) ∧ h' = res.2)) 59 [] [.int (s0)] h := by
  unfold fn_Rd_readTerm_59 at hyp
  have hc : ag_C1 [] := ag_c0
  cases hyp
  exact ag_iret d_Rd_readTerm_59 rfl rfl ⟨rfl, rfl⟩
theorem w_Rd_readTerm_0 {l : Launch} {G : ag_G} {d N : Nat} {C : Nat × Nat} (hC : ag_cN G = C.1 ∧ ag_cS G = C.2) (hH : 1 ≤ d) {x0 : Option Nat} {h : ag_H} {res : (Int32) × ag_H} (hyp : fn_Rd_readTerm_0 N C x0 h = some res) : ag_ev gc_P l G m_Rd_readTerm (d + 1) (ag_ret gc_P G (fun v h' => v = some (.int res.1) ∧ h' = res.2)) 0 [(0, ag_rf (x0))] [] h := by
  unfold fn_Rd_readTerm_0 at hyp
  have hc : ag_C1 [(0, ag_rf (x0))] := (ag_c1 (ag_cat_rf _) ag_c0)
  refine gc_aload_n (r := (x0)) d_Rd_readTerm_0 rfl ?_
  obtain ⟨a2, ea2, hyp⟩ := md_bd hyp
  obtain ⟨r2, er2, hyp⟩ := md_bd hyp
  refine gc_callv (r := (x0)) (as := []) d_Rd_readTerm_1 ml_Rd_55 gw_299 rfl sl_Ln_sign ea2 (Nat.le_of_ble_eq_true rfl) (w_Ln_sign hC (d := d) (by omega) er2) (fun v2 h2 q2 => ?_)
  obtain ⟨rfl, rfl⟩ := q2
  refine gc_istore_n d_Rd_readTerm_4 (by decide) hc ?_
  replace hc := ag_cs (i := 1) (v := .int (r2.1)) hc rfl
  refine ag_iload_n d_Rd_readTerm_5 rfl ?_
  obtain ⟨r5, er5, hyp⟩ := md_bd hyp
  refine ag_calls (as := [.int (r2.1)]) d_Rd_readTerm_6 ml_Rd_80 gw_338 (Nat.le_of_ble_eq_true rfl) (w_Rd_isVariable hC (d := d) (by omega) er5) (fun v5 h5 q5 => ?_)
  obtain ⟨rfl, rfl⟩ := q5
  refine ag_if_eq d_Rd_readTerm_9 rfl (fun q => ?_) (fun q => ?_)
  · replace hyp := md_ifp q hyp
    refine gc_aload_n (r := (x0)) d_Rd_readTerm_30 rfl ?_
    refine ag_bipush d_Rd_readTerm_31 ?_
    obtain ⟨a9, ea9, hyp⟩ := md_bd hyp
    obtain ⟨r9, er9, hyp⟩ := md_bd hyp
    refine gc_callv (r := (x0)) (as := [.int ((Int8.ofInt (45)).toInt32)]) d_Rd_readTerm_33 ml_Rd_44 gw_295 rfl sl_Ln_takes ea9 (Nat.le_of_ble_eq_true rfl) (w_Ln_takes hC (d := d) (by omega) er9) (fun v9 h9 q9 => ?_)
    obtain ⟨rfl, rfl⟩ := q9
    refine gc_istore_n d_Rd_readTerm_36 (by decide) hc ?_
    replace hc := ag_cs (i := 2) (v := .int (r9.1)) hc rfl
    refine gc_aload_n (r := (x0)) d_Rd_readTerm_37 rfl ?_
    obtain ⟨a12, ea12, hyp⟩ := md_bd hyp
    obtain ⟨r12, er12, hyp⟩ := md_bd hyp
    refine gc_callv (r := (x0)) (as := []) d_Rd_readTerm_38 ml_Rd_84 gw_342 rfl sl_Ln_digits ea12 (Nat.le_of_ble_eq_true rfl) (w_Ln_digits hC (d := d) (by omega) er12) (fun v12 h12 q12 => ?_)
    obtain ⟨rfl, rfl⟩ := q12
    refine gc_istore_n d_Rd_readTerm_41 (by decide) hc ?_
    replace hc := ag_cs (i := 3) (v := .int (r12.1)) hc rfl
    refine ag_iload_n d_Rd_readTerm_42 rfl ?_
    refine ag_if_ge d_Rd_readTerm_43 rfl (fun q => ?_) (fun q => ?_)
    · replace hyp := md_ifp q hyp
      refine ag_iload_n d_Rd_readTerm_49 rfl ?_
      refine ag_if_eq d_Rd_readTerm_50 rfl (fun q => ?_) (fun q => ?_)
      · replace hyp := md_ifp q hyp
        refine ag_iload_n d_Rd_readTerm_58 rfl ?_
        exact ag_dr ag_d0 (w_Rd_readTerm_59 hC hH hyp)
      · replace hyp := md_ifn q hyp
        refine ag_iload_n d_Rd_readTerm_53 rfl ?_
        refine ag_ineg d_Rd_readTerm_54 ?_
        refine ag_goto d_Rd_readTerm_55 rfl ?_
        exact ag_dr ag_d0 (w_Rd_readTerm_59 hC hH hyp)
    · replace hyp := md_ifn q hyp
      refine ag_ldc d_Rd_readTerm_46 gw_345 ?_
      cases hyp
      exact ag_iret d_Rd_readTerm_48 rfl rfl ⟨rfl, rfl⟩
  · replace hyp := md_ifn q hyp
    refine gc_aload_n (r := (x0)) d_Rd_readTerm_12 rfl ?_
    refine ag_dup d_Rd_readTerm_13 (ag_cat_rf _) ?_
    obtain ⟨g26, eg26, hyp⟩ := md_bd hyp
    refine gc_geti (r := (x0)) d_Rd_readTerm_14 fr_Rd_15 eg26 ?_
    refine ag_iconst d_Rd_readTerm_17 ?_
    refine ag_iadd d_Rd_readTerm_18 ?_
    obtain ⟨h29, eh29, hyp⟩ := md_bd hyp
    refine gc_putf (r := (x0)) d_Rd_readTerm_19 fl_Rd_15 (fun q => by cases q) eh29 ?_
    refine ag_ldc d_Rd_readTerm_22 gw_340 ?_
    refine ag_iload_n d_Rd_readTerm_24 rfl ?_
    refine ag_bipush d_Rd_readTerm_25 ?_
    refine ag_isub d_Rd_readTerm_27 ?_
    refine ag_iadd d_Rd_readTerm_28 ?_
    cases hyp
    exact ag_iret d_Rd_readTerm_29 rfl rfl ⟨rfl, rfl⟩
theorem w_Rd_readTerm {l : Launch} {G : ag_G} {d N : Nat} {C : Nat × Nat} (hC : ag_cN G = C.1 ∧ ag_cS G = C.2) (hH : 1 + 1 ≤ d) {p0 : Option Nat} {h : ag_H} {res : (Int32) × ag_H} (hyp : fn_Rd_readTerm N C p0 h = some res) : ag_Met gc_P l G m_Rd_readTerm d [ag_rf (p0)] h (fun v h' => v = some (.int res.1) ∧ h' = res.2) := by
  obtain ⟨d, rfl, hG⟩ := md_dd hH
  exact ag_met0 (by decide) rfl (ag_v1 (ag_cat_rf _) ag_v0) (Nat.le_of_ble_eq_true rfl) (ag_dr (ag_d1 rfl ag_d0) (w_Rd_readTerm_0 hC hG hyp))
def fn_Rd_readAtom_136 (N : Nat) (C : Nat × Nat) (s0 : Option Nat) (h : ag_H) : Option ((Option Nat) × ag_H) := some ((s0), h)
def fn_Rd_readAtom_135 (N : Nat) (C : Nat × Nat) (h : ag_H) : Option ((Option Nat) × ag_H) := fn_Rd_readAtom_136 N C (none) h
def fn_Rd_readAtom_102 (N : Nat) (C : Nat × Nat) (x0 : Option Nat) (x2 : Int32) (x3 : Int32) (s0 : Int32) (h : ag_H) : Option ((Option Nat) × ag_H) := if (s0) = ((-1048576 : Int32)) then (fn_Rd_readAtom_135 N C  h) else ((ag_rc h (x0) 1).bind fun a7 => (fn_Ln_takes N C a7 ((Int8.ofInt (41)).toInt32) h).bind fun r7 => if (r7.1) = (0) then (fn_Rd_readAtom_135 N C  r7.2) else (if r7.2.1 + 1 ≤ C.1 ∧ r7.2.2.1 + 4 ≤ C.2 then ((fn_At_init N C (r7.2.1) (x2) (Int32.ofInt 2) (x3) (s0) (ag_nw r7.2 4 (.inr (6, [.int 0, .int 0, .int 0, .int 0])))).bind fun r15 => fn_Rd_readAtom_136 N C (some (r7.2.1)) r15.2) else none))
def fn_Rd_readAtom_0 (N : Nat) (C : Nat × Nat) (x0 : Option Nat) (h : ag_H) : Option ((Option Nat) × ag_H) := (ag_rc h (x0) 1).bind fun a2 => (fn_Ln_sign N C a2  h).bind fun r2 => (fn_Rd_isName N C (r2.1) r2.2).bind fun r5 => if (r5.1) = (0) then (some ((none), r5.2)) else ((ag_gi r5.2 (x0) 1 2).bind fun g9 => (ag_pf r5.2 (ag_rf (x0)) 1 2 .int (.int ((g9) + (Int32.ofInt 1)))).bind fun h12 => (ag_rc h12 (x0) 1).bind fun a19 => (fn_Ln_takes N C a19 ((Int8.ofInt (40)).toInt32) h12).bind fun r19 => if (r19.1) = (0) then (if r19.2.1 + 1 ≤ C.1 ∧ r19.2.2.1 + 4 ≤ C.2 then ((fn_At_init N C (r19.2.1) ((r2.1) - ((Int8.ofInt (97)).toInt32)) (Int32.ofInt 0) (Int32.ofInt 0) (Int32.ofInt 0) (ag_nw r19.2 4 (.inr (6, [.int 0, .int 0, .int 0, .int 0])))).bind fun r55 => some ((some (r19.2.1)), r55.2)) else none) else ((fn_Rd_readTerm N C (x0) r19.2).bind fun r22 => if (r22.1) = ((-1048576 : Int32)) then (some ((none), r22.2)) else ((ag_rc r22.2 (x0) 1).bind fun a29 => (fn_Ln_takes N C a29 ((Int8.ofInt (41)).toInt32) r22.2).bind fun r29 => if (r29.1) = (0) then ((ag_rc r29.2 (x0) 1).bind fun a33 => (fn_Ln_takes N C a33 ((Int8.ofInt (44)).toInt32) r29.2).bind fun r33 => if (r33.1) = (0) then (fn_Rd_readAtom_102 N C (x0) ((r2.1) - ((Int8.ofInt (97)).toInt32)) (r22.1) ((-1048576 : Int32)) r33.2) else ((fn_Rd_readTerm N C (x0) r33.2).bind fun r37 => fn_Rd_readAtom_102 N C (x0) ((r2.1) - ((Int8.ofInt (97)).toInt32)) (r22.1) (r37.1) r37.2)) else (if r29.2.1 + 1 ≤ C.1 ∧ r29.2.2.1 + 4 ≤ C.2 then ((fn_At_init N C (r29.2.1) ((r2.1) - ((Int8.ofInt (97)).toInt32)) (Int32.ofInt 1) (r22.1) (Int32.ofInt 0) (ag_nw r29.2 4 (.inr (6, [.int 0, .int 0, .int 0, .int 0])))).bind fun r45 => some ((some (r29.2.1)), r45.2)) else none))))
def fn_Rd_readAtom (N : Nat) (C : Nat × Nat) (p0 : Option Nat) (h : ag_H) : Option ((Option Nat) × ag_H) := fn_Rd_readAtom_0 N C p0 h
theorem w_Rd_readAtom_136 {l : Launch} {G : ag_G} {d N : Nat} {C : Nat × Nat} (hC : ag_cN G = C.1 ∧ ag_cS G = C.2) (hH : 2 ≤ d) {s0 : Option Nat} {h : ag_H} {res : (Option Nat) × ag_H} (hyp : fn_Rd_readAtom_136 N C s0 h = some res) : ag_ev gc_P l G m_Rd_readAtom (d + 1) (ag_ret gc_P G (fun v h' => v = some (ag_rf res.1) ∧ h' = res.2)) 136 [] [ag_rf (s0)] h := by
  unfold fn_Rd_readAtom_136 at hyp
  have hc : ag_C1 [] := ag_c0
  cases hyp
  exact gc_aret (r := (s0)) d_Rd_readAtom_136 rfl (Or.inl ⟨_, rfl⟩) ⟨rfl, rfl⟩
theorem w_Rd_readAtom_135 {l : Launch} {G : ag_G} {d N : Nat} {C : Nat × Nat} (hC : ag_cN G = C.1 ∧ ag_cS G = C.2) (hH : 2 ≤ d) {h : ag_H} {res : (Option Nat) × ag_H} (hyp : fn_Rd_readAtom_135 N C h = some res) : ag_ev gc_P l G m_Rd_readAtom (d + 1) (ag_ret gc_P G (fun v h' => v = some (ag_rf res.1) ∧ h' = res.2)) 135 [] [] h := by
  unfold fn_Rd_readAtom_135 at hyp
  have hc : ag_C1 [] := ag_c0
  refine ag_null d_Rd_readAtom_135 ?_
  exact ag_dr ag_d0 (w_Rd_readAtom_136 hC hH hyp)
theorem w_Rd_readAtom_102 {l : Launch} {G : ag_G} {d N : Nat} {C : Nat × Nat} (hC : ag_cN G = C.1 ∧ ag_cS G = C.2) (hH : 2 ≤ d) {x0 : Option Nat} {x2 : Int32} {x3 : Int32} {s0 : Int32} {h : ag_H} {res : (Option Nat) × ag_H} (hyp : fn_Rd_readAtom_102 N C x0 x2 x3 s0 h = some res) : ag_ev gc_P l G m_Rd_readAtom (d + 1) (ag_ret gc_P G (fun v h' => v = some (ag_rf res.1) ∧ h' = res.2)) 102 [(0, ag_rf (x0)), (2, .int (x2)), (3, .int (x3))] [.int (s0)] h := by
  unfold fn_Rd_readAtom_102 at hyp
  have hc : ag_C1 [(0, ag_rf (x0)), (2, .int (x2)), (3, .int (x3))] := (ag_c1 (ag_cat_rf _) (ag_c1 rfl (ag_c1 rfl ag_c0)))
  refine gc_istore d_Rd_readAtom_102 (by decide) hc ?_
  replace hc := ag_cs (i := 4) (v := .int (s0)) hc rfl
  refine ag_iload d_Rd_readAtom_104 rfl ?_
  refine ag_ldc d_Rd_readAtom_106 gw_345 ?_
  refine ag_icmp_eq d_Rd_readAtom_108 rfl (fun q => ?_) (fun q => ?_)
  · replace hyp := md_ifp q hyp
    exact ag_dr ag_d0 (w_Rd_readAtom_135 hC hH hyp)
  · replace hyp := md_ifn q hyp
    refine gc_aload_n (r := (x0)) d_Rd_readAtom_111 rfl ?_
    refine ag_bipush d_Rd_readAtom_112 ?_
    obtain ⟨a7, ea7, hyp⟩ := md_bd hyp
    obtain ⟨r7, er7, hyp⟩ := md_bd hyp
    refine gc_callv (r := (x0)) (as := [.int ((Int8.ofInt (41)).toInt32)]) d_Rd_readAtom_114 ml_Rd_44 gw_295 rfl sl_Ln_takes ea7 (Nat.le_of_ble_eq_true rfl) (w_Ln_takes hC (d := d) (by omega) er7) (fun v7 h7 q7 => ?_)
    obtain ⟨rfl, rfl⟩ := q7
    refine ag_if_eq d_Rd_readAtom_117 rfl (fun q => ?_) (fun q => ?_)
    · replace hyp := md_ifp q hyp
      exact ag_dr ag_d0 (w_Rd_readAtom_135 hC hH hyp)
    · replace hyp := md_ifn q hyp
      obtain ⟨q9, hyp⟩ := md_ifs hyp
      refine gc_new (ci := 6) hC d_Rd_readAtom_120 gw_309 gw_310 gw_11 rfl nf_At q9 ?_
      refine ag_dup d_Rd_readAtom_123 rfl ?_
      refine ag_iload_n d_Rd_readAtom_124 rfl ?_
      refine ag_iconst d_Rd_readAtom_125 ?_
      refine ag_iload_n d_Rd_readAtom_126 rfl ?_
      refine ag_iload d_Rd_readAtom_127 rfl ?_
      obtain ⟨r15, er15, hyp⟩ := md_bd hyp
      refine ag_calli (a := r7.2.1) (as := [.int (x2), .int (Int32.ofInt 2), .int (x3), .int (s0)]) d_Rd_readAtom_129 ml_Rd_73 gw_312 rfl rfl (Nat.le_of_ble_eq_true rfl) (w_At_init hC (d := d) (by omega) er15) (fun v15 h15 q15 => ?_)
      obtain ⟨rfl, rfl⟩ := q15
      refine ag_goto d_Rd_readAtom_132 rfl ?_
      exact ag_dr ag_d0 (w_Rd_readAtom_136 hC hH hyp)
theorem w_Rd_readAtom_0 {l : Launch} {G : ag_G} {d N : Nat} {C : Nat × Nat} (hC : ag_cN G = C.1 ∧ ag_cS G = C.2) (hH : 2 ≤ d) {x0 : Option Nat} {h : ag_H} {res : (Option Nat) × ag_H} (hyp : fn_Rd_readAtom_0 N C x0 h = some res) : ag_ev gc_P l G m_Rd_readAtom (d + 1) (ag_ret gc_P G (fun v h' => v = some (ag_rf res.1) ∧ h' = res.2)) 0 [(0, ag_rf (x0))] [] h := by
  unfold fn_Rd_readAtom_0 at hyp
  have hc : ag_C1 [(0, ag_rf (x0))] := (ag_c1 (ag_cat_rf _) ag_c0)
  refine gc_aload_n (r := (x0)) d_Rd_readAtom_0 rfl ?_
  obtain ⟨a2, ea2, hyp⟩ := md_bd hyp
  obtain ⟨r2, er2, hyp⟩ := md_bd hyp
  refine gc_callv (r := (x0)) (as := []) d_Rd_readAtom_1 ml_Rd_55 gw_299 rfl sl_Ln_sign ea2 (Nat.le_of_ble_eq_true rfl) (w_Ln_sign hC (d := d) (by omega) er2) (fun v2 h2 q2 => ?_)
  obtain ⟨rfl, rfl⟩ := q2
  refine gc_istore_n d_Rd_readAtom_4 (by decide) hc ?_
  replace hc := ag_cs (i := 1) (v := .int (r2.1)) hc rfl
  refine ag_iload_n d_Rd_readAtom_5 rfl ?_
  obtain ⟨r5, er5, hyp⟩ := md_bd hyp
  refine ag_calls (as := [.int (r2.1)]) d_Rd_readAtom_6 ml_Rd_70 gw_307 (Nat.le_of_ble_eq_true rfl) (w_Rd_isName hC (d := d) (by omega) er5) (fun v5 h5 q5 => ?_)
  obtain ⟨rfl, rfl⟩ := q5
  refine ag_if_ne d_Rd_readAtom_9 rfl (fun q => ?_) (fun q => ?_)
  · replace hyp := md_ifn q hyp
    refine gc_aload_n (r := (x0)) d_Rd_readAtom_14 rfl ?_
    refine ag_dup d_Rd_readAtom_15 (ag_cat_rf _) ?_
    obtain ⟨g9, eg9, hyp⟩ := md_bd hyp
    refine gc_geti (r := (x0)) d_Rd_readAtom_16 fr_Rd_15 eg9 ?_
    refine ag_iconst d_Rd_readAtom_19 ?_
    refine ag_iadd d_Rd_readAtom_20 ?_
    obtain ⟨h12, eh12, hyp⟩ := md_bd hyp
    refine gc_putf (r := (x0)) d_Rd_readAtom_21 fl_Rd_15 (fun q => by cases q) eh12 ?_
    refine ag_iload_n d_Rd_readAtom_24 rfl ?_
    refine ag_bipush d_Rd_readAtom_25 ?_
    refine ag_isub d_Rd_readAtom_27 ?_
    refine gc_istore_n d_Rd_readAtom_28 (by decide) hc ?_
    replace hc := ag_cs (i := 2) (v := .int ((r2.1) - ((Int8.ofInt (97)).toInt32))) hc rfl
    refine gc_aload_n (r := (x0)) d_Rd_readAtom_29 rfl ?_
    refine ag_bipush d_Rd_readAtom_30 ?_
    obtain ⟨a19, ea19, hyp⟩ := md_bd hyp
    obtain ⟨r19, er19, hyp⟩ := md_bd hyp
    refine gc_callv (r := (x0)) (as := [.int ((Int8.ofInt (40)).toInt32)]) d_Rd_readAtom_32 ml_Rd_44 gw_295 rfl sl_Ln_takes ea19 (Nat.le_of_ble_eq_true rfl) (w_Ln_takes hC (d := d) (by omega) er19) (fun v19 h19 q19 => ?_)
    obtain ⟨rfl, rfl⟩ := q19
    refine ag_if_ne d_Rd_readAtom_35 rfl (fun q => ?_) (fun q => ?_)
    · replace hyp := md_ifn q hyp
      refine gc_aload_n (r := (x0)) d_Rd_readAtom_50 rfl ?_
      obtain ⟨r22, er22, hyp⟩ := md_bd hyp
      refine ag_calls (as := [ag_rf (x0)]) d_Rd_readAtom_51 ml_Rd_76 gw_335 (Nat.le_of_ble_eq_true rfl) (w_Rd_readTerm hC (d := d) (by omega) er22) (fun v22 h22 q22 => ?_)
      obtain ⟨rfl, rfl⟩ := q22
      refine gc_istore_n d_Rd_readAtom_54 (by decide) hc ?_
      replace hc := ag_cs (i := 3) (v := .int (r22.1)) hc rfl
      refine ag_iload_n d_Rd_readAtom_55 rfl ?_
      refine ag_ldc d_Rd_readAtom_56 gw_345 ?_
      refine ag_icmp_ne d_Rd_readAtom_58 rfl (fun q => ?_) (fun q => ?_)
      · replace hyp := md_ifn q hyp
        refine gc_aload_n (r := (x0)) d_Rd_readAtom_63 rfl ?_
        refine ag_bipush d_Rd_readAtom_64 ?_
        obtain ⟨a29, ea29, hyp⟩ := md_bd hyp
        obtain ⟨r29, er29, hyp⟩ := md_bd hyp
        refine gc_callv (r := (x0)) (as := [.int ((Int8.ofInt (41)).toInt32)]) d_Rd_readAtom_66 ml_Rd_44 gw_295 rfl sl_Ln_takes ea29 (Nat.le_of_ble_eq_true rfl) (w_Ln_takes hC (d := d) (by omega) er29) (fun v29 h29 q29 => ?_)
        obtain ⟨rfl, rfl⟩ := q29
        refine ag_if_eq d_Rd_readAtom_69 rfl (fun q => ?_) (fun q => ?_)
        · replace hyp := md_ifp q hyp
          refine gc_aload_n (r := (x0)) d_Rd_readAtom_84 rfl ?_
          refine ag_bipush d_Rd_readAtom_85 ?_
          obtain ⟨a33, ea33, hyp⟩ := md_bd hyp
          obtain ⟨r33, er33, hyp⟩ := md_bd hyp
          refine gc_callv (r := (x0)) (as := [.int ((Int8.ofInt (44)).toInt32)]) d_Rd_readAtom_87 ml_Rd_44 gw_295 rfl sl_Ln_takes ea33 (Nat.le_of_ble_eq_true rfl) (w_Ln_takes hC (d := d) (by omega) er33) (fun v33 h33 q33 => ?_)
          obtain ⟨rfl, rfl⟩ := q33
          refine ag_if_eq d_Rd_readAtom_90 rfl (fun q => ?_) (fun q => ?_)
          · replace hyp := md_ifp q hyp
            refine ag_ldc d_Rd_readAtom_100 gw_345 ?_
            exact ag_dr (ag_d1 rfl (ag_d1 rfl (ag_d1 rfl ag_d0))) (w_Rd_readAtom_102 hC hH hyp)
          · replace hyp := md_ifn q hyp
            refine gc_aload_n (r := (x0)) d_Rd_readAtom_93 rfl ?_
            obtain ⟨r37, er37, hyp⟩ := md_bd hyp
            refine ag_calls (as := [ag_rf (x0)]) d_Rd_readAtom_94 ml_Rd_76 gw_335 (Nat.le_of_ble_eq_true rfl) (w_Rd_readTerm hC (d := d) (by omega) er37) (fun v37 h37 q37 => ?_)
            obtain ⟨rfl, rfl⟩ := q37
            refine ag_goto d_Rd_readAtom_97 rfl ?_
            exact ag_dr (ag_d1 rfl (ag_d1 rfl (ag_d1 rfl ag_d0))) (w_Rd_readAtom_102 hC hH hyp)
        · replace hyp := md_ifn q hyp
          obtain ⟨q39, hyp⟩ := md_ifs hyp
          refine gc_new (ci := 6) hC d_Rd_readAtom_72 gw_309 gw_310 gw_11 rfl nf_At q39 ?_
          refine ag_dup d_Rd_readAtom_75 rfl ?_
          refine ag_iload_n d_Rd_readAtom_76 rfl ?_
          refine ag_iconst d_Rd_readAtom_77 ?_
          refine ag_iload_n d_Rd_readAtom_78 rfl ?_
          refine ag_iconst d_Rd_readAtom_79 ?_
          obtain ⟨r45, er45, hyp⟩ := md_bd hyp
          refine ag_calli (a := r29.2.1) (as := [.int ((r2.1) - ((Int8.ofInt (97)).toInt32)), .int (Int32.ofInt 1), .int (r22.1), .int (Int32.ofInt 0)]) d_Rd_readAtom_80 ml_Rd_73 gw_312 rfl rfl (Nat.le_of_ble_eq_true rfl) (w_At_init hC (d := d) (by omega) er45) (fun v45 h45 q45 => ?_)
          obtain ⟨rfl, rfl⟩ := q45
          cases hyp
          exact gc_aret (r := (some (r29.2.1))) d_Rd_readAtom_83 rfl (Or.inl ⟨_, rfl⟩) ⟨rfl, rfl⟩
      · replace hyp := md_ifp q hyp
        refine ag_null d_Rd_readAtom_61 ?_
        cases hyp
        exact gc_aret (r := (none)) d_Rd_readAtom_62 rfl (Or.inl ⟨_, rfl⟩) ⟨rfl, rfl⟩
    · replace hyp := md_ifp q hyp
      obtain ⟨q49, hyp⟩ := md_ifs hyp
      refine gc_new (ci := 6) hC d_Rd_readAtom_38 gw_309 gw_310 gw_11 rfl nf_At q49 ?_
      refine ag_dup d_Rd_readAtom_41 rfl ?_
      refine ag_iload_n d_Rd_readAtom_42 rfl ?_
      refine ag_iconst d_Rd_readAtom_43 ?_
      refine ag_iconst d_Rd_readAtom_44 ?_
      refine ag_iconst d_Rd_readAtom_45 ?_
      obtain ⟨r55, er55, hyp⟩ := md_bd hyp
      refine ag_calli (a := r19.2.1) (as := [.int ((r2.1) - ((Int8.ofInt (97)).toInt32)), .int (Int32.ofInt 0), .int (Int32.ofInt 0), .int (Int32.ofInt 0)]) d_Rd_readAtom_46 ml_Rd_73 gw_312 rfl rfl (Nat.le_of_ble_eq_true rfl) (w_At_init hC (d := d) (by omega) er55) (fun v55 h55 q55 => ?_)
      obtain ⟨rfl, rfl⟩ := q55
      cases hyp
      exact gc_aret (r := (some (r19.2.1))) d_Rd_readAtom_49 rfl (Or.inl ⟨_, rfl⟩) ⟨rfl, rfl⟩
  · replace hyp := md_ifp q hyp
    refine ag_null d_Rd_readAtom_12 ?_
    cases hyp
    exact gc_aret (r := (none)) d_Rd_readAtom_13 rfl (Or.inl ⟨_, rfl⟩) ⟨rfl, rfl⟩
theorem w_Rd_readAtom {l : Launch} {G : ag_G} {d N : Nat} {C : Nat × Nat} (hC : ag_cN G = C.1 ∧ ag_cS G = C.2) (hH : 2 + 1 ≤ d) {p0 : Option Nat} {h : ag_H} {res : (Option Nat) × ag_H} (hyp : fn_Rd_readAtom N C p0 h = some res) : ag_Met gc_P l G m_Rd_readAtom d [ag_rf (p0)] h (fun v h' => v = some (ag_rf res.1) ∧ h' = res.2) := by
  obtain ⟨d, rfl, hG⟩ := md_dd hH
  exact ag_met0 (by decide) rfl (ag_v1 (ag_cat_rf _) ag_v0) (Nat.le_of_ble_eq_true rfl) (ag_dr (ag_d1 rfl ag_d0) (w_Rd_readAtom_0 hC hG hyp))
def fn_At_bit_16 (N : Nat) (C : Nat × Nat) (s0 : Int32) (h : ag_H) : Option ((Int32) × ag_H) := some ((s0), h)
def fn_At_bit_0 (N : Nat) (C : Nat × Nat) (x0 : Int32) (h : ag_H) : Option ((Int32) × ag_H) := if (x0) < ((1048576 : Int32)) then (fn_At_bit_16 N C (Int32.ofInt 0) h) else (fn_At_bit_16 N C ((Int32.ofInt 1) <<< (((x0) - ((1048576 : Int32))) &&& 31)) h)
def fn_At_bit (N : Nat) (C : Nat × Nat) (p0 : Int32) (h : ag_H) : Option ((Int32) × ag_H) := fn_At_bit_0 N C p0 h
theorem w_At_bit_16 {l : Launch} {G : ag_G} {d N : Nat} {C : Nat × Nat} (hC : ag_cN G = C.1 ∧ ag_cS G = C.2) {s0 : Int32} {h : ag_H} {res : (Int32) × ag_H} (hyp : fn_At_bit_16 N C s0 h = some res) : ag_ev gc_P l G m_At_bit (d) (ag_ret gc_P G (fun v h' => v = some (.int res.1) ∧ h' = res.2)) 16 [] [.int (s0)] h := by
  unfold fn_At_bit_16 at hyp
  have hc : ag_C1 [] := ag_c0
  cases hyp
  exact ag_iret d_At_bit_16 rfl rfl ⟨rfl, rfl⟩
theorem w_At_bit_0 {l : Launch} {G : ag_G} {d N : Nat} {C : Nat × Nat} (hC : ag_cN G = C.1 ∧ ag_cS G = C.2) {x0 : Int32} {h : ag_H} {res : (Int32) × ag_H} (hyp : fn_At_bit_0 N C x0 h = some res) : ag_ev gc_P l G m_At_bit (d) (ag_ret gc_P G (fun v h' => v = some (.int res.1) ∧ h' = res.2)) 0 [(0, .int (x0))] [] h := by
  unfold fn_At_bit_0 at hyp
  have hc : ag_C1 [(0, .int (x0))] := (ag_c1 rfl ag_c0)
  refine ag_iload_n d_At_bit_0 rfl ?_
  refine ag_ldc d_At_bit_1 gw_353 ?_
  refine ag_icmp_lt d_At_bit_3 rfl (fun q => ?_) (fun q => ?_)
  · replace hyp := md_ifp q hyp
    refine ag_iconst d_At_bit_15 ?_
    exact ag_dr ag_d0 (w_At_bit_16 hC hyp)
  · replace hyp := md_ifn q hyp
    refine ag_iconst d_At_bit_6 ?_
    refine ag_iload_n d_At_bit_7 rfl ?_
    refine ag_ldc d_At_bit_8 gw_353 ?_
    refine ag_isub d_At_bit_10 ?_
    refine ag_ishl d_At_bit_11 ?_
    refine ag_goto d_At_bit_12 rfl ?_
    exact ag_dr ag_d0 (w_At_bit_16 hC hyp)
theorem w_At_bit {l : Launch} {G : ag_G} {d N : Nat} {C : Nat × Nat} (hC : ag_cN G = C.1 ∧ ag_cS G = C.2) (hH : 0 ≤ d) {p0 : Int32} {h : ag_H} {res : (Int32) × ag_H} (hyp : fn_At_bit N C p0 h = some res) : ag_Met gc_P l G m_At_bit d [.int (p0)] h (fun v h' => v = some (.int res.1) ∧ h' = res.2) := by
  exact ag_met (by decide) rfl (Nat.le_of_ble_eq_true rfl) (ag_dr (ag_d1 rfl ag_d0) (w_At_bit_0 hC hyp))
def fn_At_variables_0 (N : Nat) (C : Nat × Nat) (a : Nat) (h : ag_H) : Option ((Int32) × ag_H) := (ag_gi h (some (a)) 6 2).bind fun g2 => (fn_At_bit N C (g2) h).bind fun r3 => (ag_gi r3.2 (some (a)) 6 3).bind fun g5 => (fn_At_bit N C (g5) r3.2).bind fun r6 => some (((r3.1) ||| (r6.1)), r6.2)
def fn_At_variables (N : Nat) (C : Nat × Nat) (a : Nat) (h : ag_H) : Option ((Int32) × ag_H) := fn_At_variables_0 N C a h
theorem w_At_variables_0 {l : Launch} {G : ag_G} {d N : Nat} {C : Nat × Nat} {a : Nat} (hC : ag_cN G = C.1 ∧ ag_cS G = C.2) (hH : 0 ≤ d) {h : ag_H} {res : (Int32) × ag_H} (hyp : fn_At_variables_0 N C a h = some res) : ag_ev gc_P l G m_At_variables (d + 1) (ag_ret gc_P G (fun v h' => v = some (.int res.1) ∧ h' = res.2)) 0 [(0, .ref a)] [] h := by
  unfold fn_At_variables_0 at hyp
  have hc : ag_C1 [(0, .ref a)] := (ag_c1 rfl ag_c0)
  refine gc_aload_n (r := (some (a))) d_At_variables_0 rfl ?_
  obtain ⟨g2, eg2, hyp⟩ := md_bd hyp
  refine gc_geti (r := (some (a))) d_At_variables_1 fr_At_18 eg2 ?_
  obtain ⟨r3, er3, hyp⟩ := md_bd hyp
  refine ag_calls (as := [.int (g2)]) d_At_variables_4 ml_At_24 gw_351 (Nat.le_of_ble_eq_true rfl) (w_At_bit hC (d := d) (by omega) er3) (fun v3 h3 q3 => ?_)
  obtain ⟨rfl, rfl⟩ := q3
  refine gc_aload_n (r := (some (a))) d_At_variables_7 rfl ?_
  obtain ⟨g5, eg5, hyp⟩ := md_bd hyp
  refine gc_geti (r := (some (a))) d_At_variables_8 fr_At_21 eg5 ?_
  obtain ⟨r6, er6, hyp⟩ := md_bd hyp
  refine ag_calls (as := [.int (g5)]) d_At_variables_11 ml_At_24 gw_351 (Nat.le_of_ble_eq_true rfl) (w_At_bit hC (d := d) (by omega) er6) (fun v6 h6 q6 => ?_)
  obtain ⟨rfl, rfl⟩ := q6
  refine ag_ior d_At_variables_14 ?_
  cases hyp
  exact ag_iret d_At_variables_15 rfl rfl ⟨rfl, rfl⟩
theorem w_At_variables {l : Launch} {G : ag_G} {d N : Nat} {C : Nat × Nat} (hC : ag_cN G = C.1 ∧ ag_cS G = C.2) (hH : 0 + 1 ≤ d) {a : Nat} {h : ag_H} {res : (Int32) × ag_H} (hyp : fn_At_variables N C a h = some res) : ag_Met gc_P l G m_At_variables d [.ref a] h (fun v h' => v = some (.int res.1) ∧ h' = res.2) := by
  obtain ⟨d, rfl, hG⟩ := md_dd hH
  exact ag_met (by decide) rfl (Nat.le_of_ble_eq_true rfl) (ag_dr (ag_d1 rfl ag_d0) (w_At_variables_0 hC hG hyp))
def fn_AS_hugeLength_0 (N : Nat) (C : Nat × Nat) (x0 : Int32) (x1 : Int32) (h : ag_H) : Option ((Int32) × ag_H) := if (0) ≤ ((x0) + (x1)) then (if ((2147483639 : Int32)) < ((x0) + (x1)) then (some (((x0) + (x1)), h)) else (some (((2147483639 : Int32)), h))) else (none)
def fn_AS_hugeLength (N : Nat) (C : Nat × Nat) (p0 : Int32) (p1 : Int32) (h : ag_H) : Option ((Int32) × ag_H) := fn_AS_hugeLength_0 N C p0 p1 h
theorem w_AS_hugeLength_0 {l : Launch} {G : ag_G} {d N : Nat} {C : Nat × Nat} (hC : ag_cN G = C.1 ∧ ag_cS G = C.2) {x0 : Int32} {x1 : Int32} {h : ag_H} {res : (Int32) × ag_H} (hyp : fn_AS_hugeLength_0 N C x0 x1 h = some res) : ag_ev gc_P l G m_AS_hugeLength (d) (ag_ret gc_P G (fun v h' => v = some (.int res.1) ∧ h' = res.2)) 0 [(0, .int (x0)), (1, .int (x1))] [] h := by
  unfold fn_AS_hugeLength_0 at hyp
  have hc : ag_C1 [(0, .int (x0)), (1, .int (x1))] := (ag_c1 rfl (ag_c1 rfl ag_c0))
  refine ag_iload_n d_AS_hugeLength_0 rfl ?_
  refine ag_iload_n d_AS_hugeLength_1 rfl ?_
  refine ag_iadd d_AS_hugeLength_2 ?_
  refine gc_istore_n d_AS_hugeLength_3 (by decide) hc ?_
  replace hc := ag_cs (i := 2) (v := .int ((x0) + (x1))) hc rfl
  refine ag_iload_n d_AS_hugeLength_4 rfl ?_
  refine ag_if_ge d_AS_hugeLength_5 rfl (fun q => ?_) (fun q => ?_)
  · replace hyp := md_ifp q hyp
    refine ag_iload_n d_AS_hugeLength_49 rfl ?_
    refine ag_ldc d_AS_hugeLength_50 gw_387 ?_
    refine ag_icmp_gt d_AS_hugeLength_52 rfl (fun q => ?_) (fun q => ?_)
    · replace hyp := md_ifp q hyp
      refine ag_iload_n d_AS_hugeLength_58 rfl ?_
      cases hyp
      exact ag_iret d_AS_hugeLength_59 rfl rfl ⟨rfl, rfl⟩
    · replace hyp := md_ifn q hyp
      refine ag_ldc d_AS_hugeLength_55 gw_387 ?_
      cases hyp
      exact ag_iret d_AS_hugeLength_57 rfl rfl ⟨rfl, rfl⟩
  · replace hyp := md_ifn q hyp
    cases hyp
theorem w_AS_hugeLength {l : Launch} {G : ag_G} {d N : Nat} {C : Nat × Nat} (hC : ag_cN G = C.1 ∧ ag_cS G = C.2) (hH : 0 ≤ d) {p0 : Int32} {p1 : Int32} {h : ag_H} {res : (Int32) × ag_H} (hyp : fn_AS_hugeLength N C p0 p1 h = some res) : ag_Met gc_P l G m_AS_hugeLength d [.int (p0), .int (p1)] h (fun v h' => v = some (.int res.1) ∧ h' = res.2) := by
  exact ag_met (by decide) rfl (Nat.le_of_ble_eq_true rfl) (ag_dr (ag_d1 rfl (ag_d1 rfl ag_d0)) (w_AS_hugeLength_0 hC hyp))
def fn_AS_newLength_21 (N : Nat) (C : Nat × Nat) (x0 : Int32) (x1 : Int32) (h : ag_H) : Option ((Int32) × ag_H) := (fn_AS_hugeLength N C (x0) (x1) h).bind fun r3 => some ((r3.1), r3.2)
def fn_AS_newLength_0 (N : Nat) (C : Nat × Nat) (x0 : Int32) (x1 : Int32) (x2 : Int32) (h : ag_H) : Option ((Int32) × ag_H) := if ((x0) + (if (x1) < (x2) then (x2) else (x1))) ≤ (Int32.ofInt 0) then (fn_AS_newLength_21 N C (x0) (x1) h) else (if ((2147483639 : Int32)) < ((x0) + (if (x1) < (x2) then (x2) else (x1))) then (fn_AS_newLength_21 N C (x0) (x1) h) else (some (((x0) + (if (x1) < (x2) then (x2) else (x1))), h)))
def fn_AS_newLength (N : Nat) (C : Nat × Nat) (p0 : Int32) (p1 : Int32) (p2 : Int32) (h : ag_H) : Option ((Int32) × ag_H) := fn_AS_newLength_0 N C p0 p1 p2 h
theorem w_AS_newLength_21 {l : Launch} {G : ag_G} {d N : Nat} {C : Nat × Nat} (hC : ag_cN G = C.1 ∧ ag_cS G = C.2) (hH : 0 ≤ d) {x0 : Int32} {x1 : Int32} {h : ag_H} {res : (Int32) × ag_H} (hyp : fn_AS_newLength_21 N C x0 x1 h = some res) : ag_ev gc_P l G m_AS_newLength (d + 1) (ag_ret gc_P G (fun v h' => v = some (.int res.1) ∧ h' = res.2)) 21 [(0, .int (x0)), (1, .int (x1))] [] h := by
  unfold fn_AS_newLength_21 at hyp
  have hc : ag_C1 [(0, .int (x0)), (1, .int (x1))] := (ag_c1 rfl (ag_c1 rfl ag_c0))
  refine ag_iload_n d_AS_newLength_21 rfl ?_
  refine ag_iload_n d_AS_newLength_22 rfl ?_
  obtain ⟨r3, er3, hyp⟩ := md_bd hyp
  refine ag_calls (as := [.int (x0), .int (x1)]) d_AS_newLength_23 ml_AS_201 gw_389 (Nat.le_of_ble_eq_true rfl) (w_AS_hugeLength hC (d := d) (by omega) er3) (fun v3 h3 q3 => ?_)
  obtain ⟨rfl, rfl⟩ := q3
  cases hyp
  exact ag_iret d_AS_newLength_26 rfl rfl ⟨rfl, rfl⟩
theorem w_AS_newLength_0 {l : Launch} {G : ag_G} {d N : Nat} {C : Nat × Nat} (hC : ag_cN G = C.1 ∧ ag_cS G = C.2) (hH : 0 ≤ d) {x0 : Int32} {x1 : Int32} {x2 : Int32} {h : ag_H} {res : (Int32) × ag_H} (hyp : fn_AS_newLength_0 N C x0 x1 x2 h = some res) : ag_ev gc_P l G m_AS_newLength (d + 1) (ag_ret gc_P G (fun v h' => v = some (.int res.1) ∧ h' = res.2)) 0 [(0, .int (x0)), (1, .int (x1)), (2, .int (x2))] [] h := by
  unfold fn_AS_newLength_0 at hyp
  have hc : ag_C1 [(0, .int (x0)), (1, .int (x1)), (2, .int (x2))] := (ag_c1 rfl (ag_c1 rfl (ag_c1 rfl ag_c0)))
  refine ag_iload_n d_AS_newLength_0 rfl ?_
  refine ag_iload_n d_AS_newLength_1 rfl ?_
  refine ag_iload_n d_AS_newLength_2 rfl ?_
  refine ag_max d_AS_newLength_3 gw_384 gw_385 gw_13 gw_max (Nat.le_of_ble_eq_true rfl) ?_
  refine ag_iadd d_AS_newLength_6 ?_
  refine gc_istore_n d_AS_newLength_7 (by decide) hc ?_
  replace hc := ag_cs (i := 3) (v := .int ((x0) + (if (x1) < (x2) then (x2) else (x1)))) hc rfl
  refine ag_iconst d_AS_newLength_8 ?_
  refine ag_iload_n d_AS_newLength_9 rfl ?_
  refine ag_icmp_ge d_AS_newLength_10 rfl (fun q => ?_) (fun q => ?_)
  · replace hyp := md_ifp q hyp
    exact ag_dr (ag_d1 rfl (ag_d1 rfl ag_d0)) (w_AS_newLength_21 hC hH hyp)
  · replace hyp := md_ifn q hyp
    refine ag_iload_n d_AS_newLength_13 rfl ?_
    refine ag_ldc d_AS_newLength_14 gw_387 ?_
    refine ag_icmp_gt d_AS_newLength_16 rfl (fun q => ?_) (fun q => ?_)
    · replace hyp := md_ifp q hyp
      exact ag_dr (ag_d1 rfl (ag_d1 rfl ag_d0)) (w_AS_newLength_21 hC hH hyp)
    · replace hyp := md_ifn q hyp
      refine ag_iload_n d_AS_newLength_19 rfl ?_
      cases hyp
      exact ag_iret d_AS_newLength_20 rfl rfl ⟨rfl, rfl⟩
theorem w_AS_newLength {l : Launch} {G : ag_G} {d N : Nat} {C : Nat × Nat} (hC : ag_cN G = C.1 ∧ ag_cS G = C.2) (hH : 0 + 1 ≤ d) {p0 : Int32} {p1 : Int32} {p2 : Int32} {h : ag_H} {res : (Int32) × ag_H} (hyp : fn_AS_newLength N C p0 p1 p2 h = some res) : ag_Met gc_P l G m_AS_newLength d [.int (p0), .int (p1), .int (p2)] h (fun v h' => v = some (.int res.1) ∧ h' = res.2) := by
  obtain ⟨d, rfl, hG⟩ := md_dd hH
  exact ag_met (by decide) rfl (Nat.le_of_ble_eq_true rfl) (ag_dr (ag_d1 rfl (ag_d1 rfl (ag_d1 rfl ag_d0))) (w_AS_newLength_0 hC hG hyp))
def fn_AL_grow2_20 (N : Nat) (C : Nat × Nat) (a : Nat) (x1 : Int32) (x2 : Int32) (h : ag_H) : Option ((Option Nat) × ag_H) := (fn_AS_newLength N C (x2) ((x1) - (x2)) ((x2) >>> ((Int32.ofInt 1) &&& 31)) h).bind fun r8 => (ag_gr r8.2 (some (a)) 11 0).bind fun g12 => (fn_Ar_copyOf N C (g12) (r8.1) r8.2).bind fun r14 => (ag_pf r14.2 (ag_rf (some (a))) 11 0 (.array (.object "java/lang/Object")) (ag_rf (r14.1))).bind fun h16 => some ((r14.1), h16)
def fn_AL_grow2_0 (N : Nat) (C : Nat × Nat) (a : Nat) (x1 : Int32) (h : ag_H) : Option ((Option Nat) × ag_H) := (ag_gr h (some (a)) 11 0).bind fun g2 => (ag_le h (g2)).bind fun g3 => if (0) < (g3) then (fn_AL_grow2_20 N C a (x1) (g3) h) else ((ag_gr h (some (a)) 11 0).bind fun g8 => if ¬ ((g8) = some 0 ∨ (some (1)) = some 0) then (if (g8) = (some (1)) then (if ¬ (if ((Int8.ofInt (10)).toInt32) < (x1) then (x1) else ((Int8.ofInt (10)).toInt32)) < 0 ∧ (if ((Int8.ofInt (10)).toInt32) < (x1) then (x1) else ((Int8.ofInt (10)).toInt32)).toNatClampNeg * 4 ≤ 536870912 ∧ h.1 + 1 ≤ C.1 ∧ h.2.1 + (if ((Int8.ofInt (10)).toInt32) < (x1) then (x1) else ((Int8.ofInt (10)).toInt32)).toNatClampNeg ≤ C.2 then ((ag_pf (ag_nw h (if ((Int8.ofInt (10)).toInt32) < (x1) then (x1) else ((Int8.ofInt (10)).toInt32)).toNatClampNeg (.inl (4, (if ((Int8.ofInt (10)).toInt32) < (x1) then (x1) else ((Int8.ofInt (10)).toInt32)).toNatClampNeg, .inr (.inr (.inr (.inr (fun _ => none))))))) (ag_rf (some (a))) 11 0 (.array (.object "java/lang/Object")) (.ref (h.1))).bind fun h17 => some ((some (h.1)), h17)) else none) else (fn_AL_grow2_20 N C a (x1) (g3) h)) else none)
def fn_AL_grow2 (N : Nat) (C : Nat × Nat) (a : Nat) (p1 : Int32) (h : ag_H) : Option ((Option Nat) × ag_H) := fn_AL_grow2_0 N C a p1 h
theorem w_AL_grow2_20 {l : Launch} {G : ag_G} {d N : Nat} {C : Nat × Nat} {a : Nat} (hC : ag_cN G = C.1 ∧ ag_cS G = C.2) (hH : 1 ≤ d) {x1 : Int32} {x2 : Int32} {h : ag_H} {res : (Option Nat) × ag_H} (hyp : fn_AL_grow2_20 N C a x1 x2 h = some res) : ag_ev gc_P l G m_AL_grow2 (d + 1) (ag_ret gc_P G (fun v h' => v = some (ag_rf res.1) ∧ h' = res.2)) 20 [(0, .ref a), (1, .int (x1)), (2, .int (x2))] [] h := by
  unfold fn_AL_grow2_20 at hyp
  have hc : ag_C1 [(0, .ref a), (1, .int (x1)), (2, .int (x2))] := (ag_c1 rfl (ag_c1 rfl (ag_c1 rfl ag_c0)))
  refine ag_iload_n d_AL_grow2_20 rfl ?_
  refine ag_iload_n d_AL_grow2_21 rfl ?_
  refine ag_iload_n d_AL_grow2_22 rfl ?_
  refine ag_isub d_AL_grow2_23 ?_
  refine ag_iload_n d_AL_grow2_24 rfl ?_
  refine ag_iconst d_AL_grow2_25 ?_
  refine ag_ishr d_AL_grow2_26 ?_
  obtain ⟨r8, er8, hyp⟩ := md_bd hyp
  refine ag_calls (as := [.int (x2), .int ((x1) - (x2)), .int ((x2) >>> ((Int32.ofInt 1) &&& 31))]) d_AL_grow2_27 ml_AL_73 gw_382 (Nat.le_of_ble_eq_true rfl) (w_AS_newLength hC (d := d) (by omega) er8) (fun v8 h8 q8 => ?_)
  obtain ⟨rfl, rfl⟩ := q8
  refine gc_istore_n d_AL_grow2_30 (by decide) hc ?_
  replace hc := ag_cs (i := 3) (v := .int (r8.1)) hc rfl
  refine gc_aload_n (r := (some (a))) d_AL_grow2_31 rfl ?_
  refine gc_aload_n (r := (some (a))) d_AL_grow2_32 rfl ?_
  obtain ⟨g12, eg12, hyp⟩ := md_bd hyp
  refine gc_getr (r := (some (a))) d_AL_grow2_33 fr_AL_9 eg12 ?_
  refine ag_iload_n d_AL_grow2_36 rfl ?_
  obtain ⟨r14, er14, hyp⟩ := md_bd hyp
  refine ag_calls (as := [ag_rf (g12), .int (r8.1)]) d_AL_grow2_37 ml_AL_66 gw_392 (Nat.le_of_ble_eq_true rfl) (w_Ar_copyOf hC (d := d) (by omega) er14) (fun v14 h14 q14 => ?_)
  obtain ⟨rfl, rfl⟩ := q14
  refine ag_dup_x1 d_AL_grow2_40 (ag_cat_rf _) rfl ?_
  obtain ⟨h16, eh16, hyp⟩ := md_bd hyp
  refine gc_putf (r := (some (a))) d_AL_grow2_41 fl_AL_9 (fun q => by cases q) eh16 ?_
  cases hyp
  exact gc_aret (r := (r14.1)) d_AL_grow2_44 rfl (Or.inr ⟨_, rfl⟩) ⟨rfl, rfl⟩
theorem w_AL_grow2_0 {l : Launch} {G : ag_G} {d N : Nat} {C : Nat × Nat} {a : Nat} (hC : ag_cN G = C.1 ∧ ag_cS G = C.2) (hH : 1 ≤ d) {x1 : Int32} {h : ag_H} {res : (Option Nat) × ag_H} (hyp : fn_AL_grow2_0 N C a x1 h = some res) : ag_ev gc_P l G m_AL_grow2 (d + 1) (ag_ret gc_P G (fun v h' => v = some (ag_rf res.1) ∧ h' = res.2)) 0 [(0, .ref a), (1, .int (x1))] [] h := by
  unfold fn_AL_grow2_0 at hyp
  have hc : ag_C1 [(0, .ref a), (1, .int (x1))] := (ag_c1 rfl (ag_c1 rfl ag_c0))
  refine gc_aload_n (r := (some (a))) d_AL_grow2_0 rfl ?_
  obtain ⟨g2, eg2, hyp⟩ := md_bd hyp
  refine gc_getr (r := (some (a))) d_AL_grow2_1 fr_AL_9 eg2 ?_
  obtain ⟨g3, eg3, hyp⟩ := md_bd hyp
  refine gc_alen (r := (g2)) d_AL_grow2_4 eg3 ?_
  refine gc_istore_n d_AL_grow2_5 (by decide) hc ?_
  replace hc := ag_cs (i := 2) (v := .int (g3)) hc rfl
  refine ag_iload_n d_AL_grow2_6 rfl ?_
  refine ag_if_gt d_AL_grow2_7 rfl (fun q => ?_) (fun q => ?_)
  · replace hyp := md_ifp q hyp
    exact ag_dr (ag_d1 rfl (ag_d1 rfl (ag_d1 rfl ag_d0))) (w_AL_grow2_20 hC hH hyp)
  · replace hyp := md_ifn q hyp
    refine gc_aload_n (r := (some (a))) d_AL_grow2_10 rfl ?_
    obtain ⟨g8, eg8, hyp⟩ := md_bd hyp
    refine gc_getr (r := (some (a))) d_AL_grow2_11 fr_AL_9 eg8 ?_
    refine ag_gets d_AL_grow2_14 gw_125 ?_
    obtain ⟨q10, hyp⟩ := md_ifs hyp
    refine gc_acmp_eq (rx := (g8)) (ry := (some (1))) d_AL_grow2_17 rfl q10 (fun q => ?_) (fun q => ?_)
    · replace hyp := md_ifp q hyp
      refine gc_aload_n (r := (some (a))) d_AL_grow2_45 rfl ?_
      refine ag_bipush d_AL_grow2_46 ?_
      refine ag_iload_n d_AL_grow2_48 rfl ?_
      refine ag_max d_AL_grow2_49 gw_426 gw_385 gw_13 gw_max (Nat.le_of_ble_eq_true rfl) ?_
      obtain ⟨q15, hyp⟩ := md_ifs hyp
      refine gc_anew (t := 4) hC d_AL_grow2_52 gw_427 gw_418 rfl q15 ?_
      refine ag_dup_x1 d_AL_grow2_55 rfl rfl ?_
      obtain ⟨h17, eh17, hyp⟩ := md_bd hyp
      refine gc_putf (r := (some (a))) d_AL_grow2_56 fl_AL_9 (fun q => by cases q) eh17 ?_
      cases hyp
      exact gc_aret (r := (some (h.1))) d_AL_grow2_59 rfl (Or.inr ⟨_, rfl⟩) ⟨rfl, rfl⟩
    · replace hyp := md_ifn q hyp
      exact ag_dr (ag_d1 rfl (ag_d1 rfl (ag_d1 rfl ag_d0))) (w_AL_grow2_20 hC hH hyp)
theorem w_AL_grow2 {l : Launch} {G : ag_G} {d N : Nat} {C : Nat × Nat} (hC : ag_cN G = C.1 ∧ ag_cS G = C.2) (hH : 1 + 1 ≤ d) {a : Nat} {p1 : Int32} {h : ag_H} {res : (Option Nat) × ag_H} (hyp : fn_AL_grow2 N C a p1 h = some res) : ag_Met gc_P l G m_AL_grow2 d [.ref a, .int (p1)] h (fun v h' => v = some (ag_rf res.1) ∧ h' = res.2) := by
  obtain ⟨d, rfl, hG⟩ := md_dd hH
  exact ag_met (by decide) rfl (Nat.le_of_ble_eq_true rfl) (ag_dr (ag_d1 rfl (ag_d1 rfl ag_d0)) (w_AL_grow2_0 hC hG hyp))
def fn_AL_grow_0 (N : Nat) (C : Nat × Nat) (a : Nat) (h : ag_H) : Option ((Option Nat) × ag_H) := (ag_gi h (some (a)) 11 1).bind fun g3 => (ag_rc h (some (a)) 11).bind fun a6 => (fn_AL_grow2 N C a6 ((g3) + (Int32.ofInt 1)) h).bind fun r6 => some ((r6.1), r6.2)
def fn_AL_grow (N : Nat) (C : Nat × Nat) (a : Nat) (h : ag_H) : Option ((Option Nat) × ag_H) := fn_AL_grow_0 N C a h
theorem w_AL_grow_0 {l : Launch} {G : ag_G} {d N : Nat} {C : Nat × Nat} {a : Nat} (hC : ag_cN G = C.1 ∧ ag_cS G = C.2) (hH : 2 ≤ d) {h : ag_H} {res : (Option Nat) × ag_H} (hyp : fn_AL_grow_0 N C a h = some res) : ag_ev gc_P l G m_AL_grow (d + 1) (ag_ret gc_P G (fun v h' => v = some (ag_rf res.1) ∧ h' = res.2)) 0 [(0, .ref a)] [] h := by
  unfold fn_AL_grow_0 at hyp
  have hc : ag_C1 [(0, .ref a)] := (ag_c1 rfl ag_c0)
  refine gc_aload_n (r := (some (a))) d_AL_grow_0 rfl ?_
  refine gc_aload_n (r := (some (a))) d_AL_grow_1 rfl ?_
  obtain ⟨g3, eg3, hyp⟩ := md_bd hyp
  refine gc_geti (r := (some (a))) d_AL_grow_2 fr_AL_48 eg3 ?_
  refine ag_iconst d_AL_grow_5 ?_
  refine ag_iadd d_AL_grow_6 ?_
  obtain ⟨a6, ea6, hyp⟩ := md_bd hyp
  obtain ⟨r6, er6, hyp⟩ := md_bd hyp
  refine gc_callv (r := (some (a))) (as := [.int ((g3) + (Int32.ofInt 1))]) d_AL_grow_7 ml_AL_69 gw_379 rfl sl_AL_grow2 ea6 (Nat.le_of_ble_eq_true rfl) (w_AL_grow2 hC (d := d) (by omega) er6) (fun v6 h6 q6 => ?_)
  obtain ⟨rfl, rfl⟩ := q6
  cases hyp
  exact gc_aret (r := (r6.1)) d_AL_grow_10 rfl (Or.inr ⟨_, rfl⟩) ⟨rfl, rfl⟩
theorem w_AL_grow {l : Launch} {G : ag_G} {d N : Nat} {C : Nat × Nat} (hC : ag_cN G = C.1 ∧ ag_cS G = C.2) (hH : 2 + 1 ≤ d) {a : Nat} {h : ag_H} {res : (Option Nat) × ag_H} (hyp : fn_AL_grow N C a h = some res) : ag_Met gc_P l G m_AL_grow d [.ref a] h (fun v h' => v = some (ag_rf res.1) ∧ h' = res.2) := by
  obtain ⟨d, rfl, hG⟩ := md_dd hH
  exact ag_met (by decide) rfl (Nat.le_of_ble_eq_true rfl) (ag_dr (ag_d1 rfl ag_d0) (w_AL_grow_0 hC hG hyp))
def fn_AL_add2_11 (N : Nat) (C : Nat × Nat) (a : Nat) (x1 : Option Nat) (x2 : Option Nat) (x3 : Int32) (h : ag_H) : Option ((Int32) × ag_H) := (ag_as h (x2) (x3) (x1)).bind fun h4 => (ag_pf h4 (ag_rf (some (a))) 11 1 .int (.int ((x3) + (Int32.ofInt 1)))).bind fun h9 => some (0, h9)
def fn_AL_add2_0 (N : Nat) (C : Nat × Nat) (a : Nat) (x1 : Option Nat) (x2 : Option Nat) (x3 : Int32) (h : ag_H) : Option ((Int32) × ag_H) := (ag_le h (x2)).bind fun g3 => if (x3) = (g3) then ((ag_rc h (some (a)) 11).bind fun a6 => (fn_AL_grow N C a6  h).bind fun r6 => fn_AL_add2_11 N C a (x1) ((r6.1)) (x3) r6.2) else (fn_AL_add2_11 N C a (x1) (x2) (x3) h)
def fn_AL_add2 (N : Nat) (C : Nat × Nat) (a : Nat) (p1 : Option Nat) (p2 : Option Nat) (p3 : Int32) (h : ag_H) : Option ((Int32) × ag_H) := fn_AL_add2_0 N C a p1 p2 p3 h
theorem w_AL_add2_11 {l : Launch} {G : ag_G} {d N : Nat} {C : Nat × Nat} {a : Nat} (hC : ag_cN G = C.1 ∧ ag_cS G = C.2) (hH : 3 ≤ d) {x1 : Option Nat} {x2 : Option Nat} {x3 : Int32} {h : ag_H} {res : (Int32) × ag_H} (hyp : fn_AL_add2_11 N C a x1 x2 x3 h = some res) : ag_ev gc_P l G m_AL_add2 (d + 1) (ag_ret gc_P G (fun v h' => v = none ∧ h' = res.2)) 11 [(0, .ref a), (1, ag_rf (x1)), (2, ag_rf (x2)), (3, .int (x3))] [] h := by
  unfold fn_AL_add2_11 at hyp
  have hc : ag_C1 [(0, .ref a), (1, ag_rf (x1)), (2, ag_rf (x2)), (3, .int (x3))] := (ag_c1 rfl (ag_c1 (ag_cat_rf _) (ag_c1 (ag_cat_rf _) (ag_c1 rfl ag_c0))))
  refine gc_aload_n (r := (x2)) d_AL_add2_11 rfl ?_
  refine ag_iload_n d_AL_add2_12 rfl ?_
  refine gc_aload_n (r := (x1)) d_AL_add2_13 rfl ?_
  obtain ⟨h4, eh4, hyp⟩ := md_bd hyp
  refine gc_ast (r := (x2)) (w := (x1)) d_AL_add2_14 eh4 ?_
  refine gc_aload_n (r := (some (a))) d_AL_add2_15 rfl ?_
  refine ag_iload_n d_AL_add2_16 rfl ?_
  refine ag_iconst d_AL_add2_17 ?_
  refine ag_iadd d_AL_add2_18 ?_
  obtain ⟨h9, eh9, hyp⟩ := md_bd hyp
  refine gc_putf (r := (some (a))) d_AL_add2_19 fl_AL_48 (fun q => by cases q) eh9 ?_
  cases hyp
  exact ag_vret d_AL_add2_22 rfl ⟨rfl, rfl⟩
theorem w_AL_add2_0 {l : Launch} {G : ag_G} {d N : Nat} {C : Nat × Nat} {a : Nat} (hC : ag_cN G = C.1 ∧ ag_cS G = C.2) (hH : 3 ≤ d) {x1 : Option Nat} {x2 : Option Nat} {x3 : Int32} {h : ag_H} {res : (Int32) × ag_H} (hyp : fn_AL_add2_0 N C a x1 x2 x3 h = some res) : ag_ev gc_P l G m_AL_add2 (d + 1) (ag_ret gc_P G (fun v h' => v = none ∧ h' = res.2)) 0 [(0, .ref a), (1, ag_rf (x1)), (2, ag_rf (x2)), (3, .int (x3))] [] h := by
  unfold fn_AL_add2_0 at hyp
  have hc : ag_C1 [(0, .ref a), (1, ag_rf (x1)), (2, ag_rf (x2)), (3, .int (x3))] := (ag_c1 rfl (ag_c1 (ag_cat_rf _) (ag_c1 (ag_cat_rf _) (ag_c1 rfl ag_c0))))
  refine ag_iload_n d_AL_add2_0 rfl ?_
  refine gc_aload_n (r := (x2)) d_AL_add2_1 rfl ?_
  obtain ⟨g3, eg3, hyp⟩ := md_bd hyp
  refine gc_alen (r := (x2)) d_AL_add2_2 eg3 ?_
  refine ag_icmp_ne d_AL_add2_3 rfl (fun q => ?_) (fun q => ?_)
  · replace hyp := md_ifn q hyp
    exact ag_dr (ag_d1 rfl (ag_d1 rfl (ag_d1 rfl (ag_d1 rfl ag_d0)))) (w_AL_add2_11 hC hH hyp)
  · replace hyp := md_ifp q hyp
    refine gc_aload_n (r := (some (a))) d_AL_add2_6 rfl ?_
    obtain ⟨a6, ea6, hyp⟩ := md_bd hyp
    obtain ⟨r6, er6, hyp⟩ := md_bd hyp
    refine gc_callv (r := (some (a))) (as := []) d_AL_add2_7 ml_AL_129 gw_375 rfl sl_AL_grow ea6 (Nat.le_of_ble_eq_true rfl) (w_AL_grow hC (d := d) (by omega) er6) (fun v6 h6 q6 => ?_)
    obtain ⟨rfl, rfl⟩ := q6
    refine gc_astore0_n (r := (r6.1)) d_AL_add2_10 (by decide) hc ?_
    replace hc := ag_cs (i := 2) (v := ag_rf (r6.1)) hc (ag_cat_rf _)
    exact ag_dr (ag_d1 rfl (ag_d1 rfl (ag_d1 rfl (ag_d1 rfl ag_d0)))) (w_AL_add2_11 hC hH hyp)
theorem w_AL_add2 {l : Launch} {G : ag_G} {d N : Nat} {C : Nat × Nat} (hC : ag_cN G = C.1 ∧ ag_cS G = C.2) (hH : 3 + 1 ≤ d) {a : Nat} {p1 : Option Nat} {p2 : Option Nat} {p3 : Int32} {h : ag_H} {res : (Int32) × ag_H} (hyp : fn_AL_add2 N C a p1 p2 p3 h = some res) : ag_Met gc_P l G m_AL_add2 d [.ref a, ag_rf (p1), ag_rf (p2), .int (p3)] h (fun v h' => v = none ∧ h' = res.2) := by
  obtain ⟨d, rfl, hG⟩ := md_dd hH
  exact ag_met0 (by decide) rfl (ag_v1 rfl (ag_v1 (ag_cat_rf _) (ag_v1 (ag_cat_rf _) (ag_v1 rfl ag_v0)))) (Nat.le_of_ble_eq_true rfl) (ag_dr (ag_d1 rfl (ag_d1 rfl (ag_d1 rfl (ag_d1 rfl ag_d0)))) (w_AL_add2_0 hC hG hyp))
def fn_AL_add_0 (N : Nat) (C : Nat × Nat) (a : Nat) (x1 : Option Nat) (h : ag_H) : Option ((Int32) × ag_H) := (ag_gi h (some (a)) 11 2).bind fun g3 => (ag_pf h (ag_rf (some (a))) 11 2 .int (.int ((g3) + (Int32.ofInt 1)))).bind fun h6 => (ag_gr h6 (some (a)) 11 0).bind fun g10 => (ag_gi h6 (some (a)) 11 1).bind fun g12 => (ag_rc h6 (some (a)) 11).bind fun a13 => (fn_AL_add2 N C a13 (x1) (g10) (g12) h6).bind fun r13 => if md_01 (Int32.ofInt 1) = true then (some ((Int32.ofInt 1), r13.2)) else none
def fn_AL_add (N : Nat) (C : Nat × Nat) (a : Nat) (p1 : Option Nat) (h : ag_H) : Option ((Int32) × ag_H) := fn_AL_add_0 N C a p1 h
theorem w_AL_add_0 {l : Launch} {G : ag_G} {d N : Nat} {C : Nat × Nat} {a : Nat} (hC : ag_cN G = C.1 ∧ ag_cS G = C.2) (hH : 4 ≤ d) {x1 : Option Nat} {h : ag_H} {res : (Int32) × ag_H} (hyp : fn_AL_add_0 N C a x1 h = some res) : ag_ev gc_P l G m_AL_add (d + 1) (ag_ret gc_P G (fun v h' => v = some (.int res.1) ∧ h' = res.2)) 0 [(0, .ref a), (1, ag_rf (x1))] [] h := by
  unfold fn_AL_add_0 at hyp
  have hc : ag_C1 [(0, .ref a), (1, ag_rf (x1))] := (ag_c1 rfl (ag_c1 (ag_cat_rf _) ag_c0))
  refine gc_aload_n (r := (some (a))) d_AL_add_0 rfl ?_
  refine ag_dup d_AL_add_1 rfl ?_
  obtain ⟨g3, eg3, hyp⟩ := md_bd hyp
  refine gc_geti (r := (some (a))) d_AL_add_2 fr_AL_63 eg3 ?_
  refine ag_iconst d_AL_add_5 ?_
  refine ag_iadd d_AL_add_6 ?_
  obtain ⟨h6, eh6, hyp⟩ := md_bd hyp
  refine gc_putf (r := (some (a))) d_AL_add_7 fl_AL_63 (fun q => by cases q) eh6 ?_
  refine gc_aload_n (r := (some (a))) d_AL_add_10 rfl ?_
  refine gc_aload_n (r := (x1)) d_AL_add_11 rfl ?_
  refine gc_aload_n (r := (some (a))) d_AL_add_12 rfl ?_
  obtain ⟨g10, eg10, hyp⟩ := md_bd hyp
  refine gc_getr (r := (some (a))) d_AL_add_13 fr_AL_9 eg10 ?_
  refine gc_aload_n (r := (some (a))) d_AL_add_16 rfl ?_
  obtain ⟨g12, eg12, hyp⟩ := md_bd hyp
  refine gc_geti (r := (some (a))) d_AL_add_17 fr_AL_48 eg12 ?_
  obtain ⟨a13, ea13, hyp⟩ := md_bd hyp
  obtain ⟨r13, er13, hyp⟩ := md_bd hyp
  refine gc_callv (r := (some (a))) (as := [ag_rf (x1), ag_rf (g10), .int (g12)]) d_AL_add_20 ml_AL_131 gw_371 rfl sl_AL_add2 ea13 (Nat.le_of_ble_eq_true rfl) (w_AL_add2 hC (d := d) (by omega) er13) (fun v13 h13 q13 => ?_)
  obtain ⟨rfl, rfl⟩ := q13
  refine ag_iconst d_AL_add_23 ?_
  obtain ⟨q15, hyp⟩ := md_ifs hyp
  cases hyp
  exact ag_iret d_AL_add_24 rfl (md_01n q15) ⟨rfl, rfl⟩
theorem w_AL_add {l : Launch} {G : ag_G} {d N : Nat} {C : Nat × Nat} (hC : ag_cN G = C.1 ∧ ag_cS G = C.2) (hH : 4 + 1 ≤ d) {a : Nat} {p1 : Option Nat} {h : ag_H} {res : (Int32) × ag_H} (hyp : fn_AL_add N C a p1 h = some res) : ag_Met gc_P l G m_AL_add d [.ref a, ag_rf (p1)] h (fun v h' => v = some (.int res.1) ∧ h' = res.2) := by
  obtain ⟨d, rfl, hG⟩ := md_dd hH
  exact ag_met0 (by decide) rfl (ag_v1 rfl (ag_v1 (ag_cat_rf _) ag_v0)) (Nat.le_of_ble_eq_true rfl) (ag_dr (ag_d1 rfl (ag_d1 rfl ag_d0)) (w_AL_add_0 hC hG hyp))
def fn_Rd_addStep_0 (N : Nat) (C : Nat × Nat) (a : Nat) (x1 : Int32) (h : ag_H) : Option ((Int32) × ag_H) := (ag_gi h (some (a)) 2 1).bind fun g2 => if (g2) < ((Int8.ofInt (40)).toInt32) then ((ag_gr h (some (a)) 2 0).bind fun g6 => (ag_gi h (some (a)) 2 1).bind fun g8 => (ag_ai h 0 (g6)).bind fun p10 => if md_in (g8) p10.1 = true then ((ag_gi (ag_up h ((g6).getD 0) (.inl (0, p10.1, .inl (upd p10.2 (g8).toNatClampNeg (x1))))) (some (a)) 2 1).bind fun g13 => (ag_pf (ag_up h ((g6).getD 0) (.inl (0, p10.1, .inl (upd p10.2 (g8).toNatClampNeg (x1))))) (ag_rf (some (a))) 2 1 .int (.int ((g13) + (Int32.ofInt 1)))).bind fun h16 => if md_01 (Int32.ofInt 1) = true then (some ((Int32.ofInt 1), h16)) else none) else none) else (if md_01 (Int32.ofInt 0) = true then (some ((Int32.ofInt 0), h)) else none)
def fn_Rd_addStep (N : Nat) (C : Nat × Nat) (a : Nat) (p1 : Int32) (h : ag_H) : Option ((Int32) × ag_H) := fn_Rd_addStep_0 N C a p1 h
theorem w_Rd_addStep_0 {l : Launch} {G : ag_G} {d N : Nat} {C : Nat × Nat} {a : Nat} (hC : ag_cN G = C.1 ∧ ag_cS G = C.2) {x1 : Int32} {h : ag_H} {res : (Int32) × ag_H} (hyp : fn_Rd_addStep_0 N C a x1 h = some res) : ag_ev gc_P l G m_Rd_addStep (d) (ag_ret gc_P G (fun v h' => v = some (.int res.1) ∧ h' = res.2)) 0 [(0, .ref a), (1, .int (x1))] [] h := by
  unfold fn_Rd_addStep_0 at hyp
  have hc : ag_C1 [(0, .ref a), (1, .int (x1))] := (ag_c1 rfl (ag_c1 rfl ag_c0))
  refine gc_aload_n (r := (some (a))) d_Rd_addStep_0 rfl ?_
  obtain ⟨g2, eg2, hyp⟩ := md_bd hyp
  refine gc_geti (r := (some (a))) d_Rd_addStep_1 fr_Rd_21 eg2 ?_
  refine ag_bipush d_Rd_addStep_4 ?_
  refine ag_icmp_lt d_Rd_addStep_6 rfl (fun q => ?_) (fun q => ?_)
  · replace hyp := md_ifp q hyp
    refine gc_aload_n (r := (some (a))) d_Rd_addStep_11 rfl ?_
    obtain ⟨g6, eg6, hyp⟩ := md_bd hyp
    refine gc_getr (r := (some (a))) d_Rd_addStep_12 fr_Rd_9 eg6 ?_
    refine gc_aload_n (r := (some (a))) d_Rd_addStep_15 rfl ?_
    obtain ⟨g8, eg8, hyp⟩ := md_bd hyp
    refine gc_geti (r := (some (a))) d_Rd_addStep_16 fr_Rd_21 eg8 ?_
    refine ag_iload_n d_Rd_addStep_19 rfl ?_
    obtain ⟨p10, ep10, hyp⟩ := md_bd hyp
    obtain ⟨q10, hyp⟩ := md_ifs hyp
    refine gc_ist (r := (g6)) d_Rd_addStep_20 ep10 q10 ?_
    refine gc_aload_n (r := (some (a))) d_Rd_addStep_21 rfl ?_
    refine ag_dup d_Rd_addStep_22 rfl ?_
    obtain ⟨g13, eg13, hyp⟩ := md_bd hyp
    refine gc_geti (r := (some (a))) d_Rd_addStep_23 fr_Rd_21 eg13 ?_
    refine ag_iconst d_Rd_addStep_26 ?_
    refine ag_iadd d_Rd_addStep_27 ?_
    obtain ⟨h16, eh16, hyp⟩ := md_bd hyp
    refine gc_putf (r := (some (a))) d_Rd_addStep_28 fl_Rd_21 (fun q => by cases q) eh16 ?_
    refine ag_iconst d_Rd_addStep_31 ?_
    obtain ⟨q18, hyp⟩ := md_ifs hyp
    cases hyp
    exact ag_iret d_Rd_addStep_32 rfl (md_01n q18) ⟨rfl, rfl⟩
  · replace hyp := md_ifn q hyp
    refine ag_iconst d_Rd_addStep_9 ?_
    obtain ⟨q20, hyp⟩ := md_ifs hyp
    cases hyp
    exact ag_iret d_Rd_addStep_10 rfl (md_01n q20) ⟨rfl, rfl⟩
theorem w_Rd_addStep {l : Launch} {G : ag_G} {d N : Nat} {C : Nat × Nat} (hC : ag_cN G = C.1 ∧ ag_cS G = C.2) (hH : 0 ≤ d) {a : Nat} {p1 : Int32} {h : ag_H} {res : (Int32) × ag_H} (hyp : fn_Rd_addStep N C a p1 h = some res) : ag_Met gc_P l G m_Rd_addStep d [.ref a, .int (p1)] h (fun v h' => v = some (.int res.1) ∧ h' = res.2) := by
  exact ag_met (by decide) rfl (Nat.le_of_ble_eq_true rfl) (ag_dr (ag_d1 rfl (ag_d1 rfl ag_d0)) (w_Rd_addStep_0 hC hyp))
def fn_Rd_readFactor_129 (N : Nat) (C : Nat × Nat) (kR : Nat → Option Nat → Int32 → ag_H → Option ((Int32) × ag_H)) (a : Nat) (s0 : Int32) (h : ag_H) : Option ((Int32) × ag_H) := if md_01 (s0) = true then (some ((s0), h)) else none
def fn_Rd_readFactor_128 (N : Nat) (C : Nat × Nat) (kR : Nat → Option Nat → Int32 → ag_H → Option ((Int32) × ag_H)) (a : Nat) (h : ag_H) : Option ((Int32) × ag_H) := fn_Rd_readFactor_129 N C kR a (Int32.ofInt 0) h
def fn_Rd_readFactor_46 (N : Nat) (C : Nat × Nat) (kR : Nat → Option Nat → Int32 → ag_H → Option ((Int32) × ag_H)) (a : Nat) (h : ag_H) : Option ((Int32) × ag_H) := if md_01 (Int32.ofInt 0) = true then (some ((Int32.ofInt 0), h)) else none
def fn_Rd_readFactor_0 (N : Nat) (C : Nat × Nat) (kR : Nat → Option Nat → Int32 → ag_H → Option ((Int32) × ag_H)) (a : Nat) (x1 : Option Nat) (x2 : Int32) (h : ag_H) : Option ((Int32) × ag_H) := (ag_rc h (x1) 1).bind fun a2 => (fn_Ln_sign N C a2  h).bind fun r2 => if (r2.1) = ((Int8.ofInt (40)).toInt32) then ((ag_gi r2.2 (x1) 1 2).bind fun g47 => (ag_pf r2.2 (ag_rf (x1)) 1 2 .int (.int ((g47) + (Int32.ofInt 1)))).bind fun h50 => if (Int32.ofInt 4) ≤ (x2) then (fn_Rd_readFactor_46 N C kR a  h50) else ((ag_rc h50 (some (a)) 2).bind fun a59 => (kR a59 (x1) ((x2) + (Int32.ofInt 1)) h50).bind fun r59 => if (r59.1) = (0) then (fn_Rd_readFactor_46 N C kR a  r59.2) else ((ag_rc r59.2 (x1) 1).bind fun a62 => (fn_Ln_sign N C a62  r59.2).bind fun r62 => if (r62.1) = ((Int8.ofInt (41)).toInt32) then ((ag_gi r62.2 (x1) 1 2).bind fun g67 => (ag_pf r62.2 (ag_rf (x1)) 1 2 .int (.int ((g67) + (Int32.ofInt 1)))).bind fun h70 => if md_01 (Int32.ofInt 1) = true then (some ((Int32.ofInt 1), h70)) else none) else (fn_Rd_readFactor_46 N C kR a  r62.2)))) else ((fn_Rd_isVariable N C (r2.1) r2.2).bind fun r8 => if (r8.1) = (0) then ((ag_rc r8.2 (x1) 1).bind fun a11 => (fn_Ln_digits N C a11  r8.2).bind fun r11 => if (r11.1) < (0) then (fn_Rd_readFactor_128 N C kR a  r11.2) else ((ag_rc r11.2 (some (a)) 2).bind fun a17 => (fn_Rd_addStep N C a17 (r11.1) r11.2).bind fun r17 => if (r17.1) = (0) then (fn_Rd_readFactor_128 N C kR a  r17.2) else (fn_Rd_readFactor_129 N C kR a (Int32.ofInt 1) r17.2))) else ((ag_gi r8.2 (x1) 1 2).bind fun g23 => (ag_pf r8.2 (ag_rf (x1)) 1 2 .int (.int ((g23) + (Int32.ofInt 1)))).bind fun h26 => (ag_gi h26 (some (a)) 2 2).bind fun g29 => (ag_pf h26 (ag_rf (some (a))) 2 2 .int (.int ((g29) ||| ((Int32.ofInt 1) <<< (((r2.1) - ((Int8.ofInt (65)).toInt32)) &&& 31))))).bind fun h36 => (ag_rc h36 (some (a)) 2).bind fun a43 => (fn_Rd_addStep N C a43 (((1048576 : Int32)) + ((r2.1) - ((Int8.ofInt (65)).toInt32))) h36).bind fun r43 => if md_01 (r43.1) = true then (some ((r43.1), r43.2)) else none))
def fn_Rd_readFactor (N : Nat) (C : Nat × Nat) (kR : Nat → Option Nat → Int32 → ag_H → Option ((Int32) × ag_H)) (a : Nat) (p1 : Option Nat) (p2 : Int32) (h : ag_H) : Option ((Int32) × ag_H) := fn_Rd_readFactor_0 N C kR a p1 p2 h
theorem w_Rd_readFactor_129 {l : Launch} {G : ag_G} {d N Hk : Nat} {C : Nat × Nat} {a : Nat} {kR : Nat → Option Nat → Int32 → ag_H → Option ((Int32) × ag_H)} (hC : ag_cN G = C.1 ∧ ag_cS G = C.2) (hkR : ∀ (dk : Nat), Hk ≤ dk → ∀ (ua : Nat) (u0 : Option Nat) (u1 : Int32) (hh : ag_H) (res : (Int32) × ag_H), kR ua u0 u1 hh = some res → ag_Met gc_P l G m_Rd_readSum dk [.ref ua, ag_rf u0, .int u1] hh (fun v h' => v = some (.int res.1) ∧ h' = res.2)) (hH : Hk + 0 ≤ d) {s0 : Int32} {h : ag_H} {res : (Int32) × ag_H} (hyp : fn_Rd_readFactor_129 N C kR a s0 h = some res) : ag_ev gc_P l G m_Rd_readFactor (d + 1) (ag_ret gc_P G (fun v h' => v = some (.int res.1) ∧ h' = res.2)) 129 [(0, .ref a)] [.int (s0)] h := by
  unfold fn_Rd_readFactor_129 at hyp
  have hc : ag_C1 [(0, .ref a)] := (ag_c1 rfl ag_c0)
  obtain ⟨q1, hyp⟩ := md_ifs hyp
  cases hyp
  exact ag_iret d_Rd_readFactor_129 rfl (md_01n q1) ⟨rfl, rfl⟩
theorem w_Rd_readFactor_128 {l : Launch} {G : ag_G} {d N Hk : Nat} {C : Nat × Nat} {a : Nat} {kR : Nat → Option Nat → Int32 → ag_H → Option ((Int32) × ag_H)} (hC : ag_cN G = C.1 ∧ ag_cS G = C.2) (hkR : ∀ (dk : Nat), Hk ≤ dk → ∀ (ua : Nat) (u0 : Option Nat) (u1 : Int32) (hh : ag_H) (res : (Int32) × ag_H), kR ua u0 u1 hh = some res → ag_Met gc_P l G m_Rd_readSum dk [.ref ua, ag_rf u0, .int u1] hh (fun v h' => v = some (.int res.1) ∧ h' = res.2)) (hH : Hk + 0 ≤ d) {h : ag_H} {res : (Int32) × ag_H} (hyp : fn_Rd_readFactor_128 N C kR a h = some res) : ag_ev gc_P l G m_Rd_readFactor (d + 1) (ag_ret gc_P G (fun v h' => v = some (.int res.1) ∧ h' = res.2)) 128 [(0, .ref a)] [] h := by
  unfold fn_Rd_readFactor_128 at hyp
  have hc : ag_C1 [(0, .ref a)] := (ag_c1 rfl ag_c0)
  refine ag_iconst d_Rd_readFactor_128 ?_
  exact ag_dr (ag_d1 rfl ag_d0) (w_Rd_readFactor_129 hC hkR hH hyp)
theorem w_Rd_readFactor_46 {l : Launch} {G : ag_G} {d N Hk : Nat} {C : Nat × Nat} {a : Nat} {kR : Nat → Option Nat → Int32 → ag_H → Option ((Int32) × ag_H)} (hC : ag_cN G = C.1 ∧ ag_cS G = C.2) (hkR : ∀ (dk : Nat), Hk ≤ dk → ∀ (ua : Nat) (u0 : Option Nat) (u1 : Int32) (hh : ag_H) (res : (Int32) × ag_H), kR ua u0 u1 hh = some res → ag_Met gc_P l G m_Rd_readSum dk [.ref ua, ag_rf u0, .int u1] hh (fun v h' => v = some (.int res.1) ∧ h' = res.2)) (hH : Hk + 0 ≤ d) {h : ag_H} {res : (Int32) × ag_H} (hyp : fn_Rd_readFactor_46 N C kR a h = some res) : ag_ev gc_P l G m_Rd_readFactor (d + 1) (ag_ret gc_P G (fun v h' => v = some (.int res.1) ∧ h' = res.2)) 46 [(0, .ref a)] [] h := by
  unfold fn_Rd_readFactor_46 at hyp
  have hc : ag_C1 [(0, .ref a)] := (ag_c1 rfl ag_c0)
  refine ag_iconst d_Rd_readFactor_46 ?_
  obtain ⟨q2, hyp⟩ := md_ifs hyp
  cases hyp
  exact ag_iret d_Rd_readFactor_47 rfl (md_01n q2) ⟨rfl, rfl⟩
theorem w_Rd_readFactor_0 {l : Launch} {G : ag_G} {d N Hk : Nat} {C : Nat × Nat} {a : Nat} {kR : Nat → Option Nat → Int32 → ag_H → Option ((Int32) × ag_H)} (hC : ag_cN G = C.1 ∧ ag_cS G = C.2) (hkR : ∀ (dk : Nat), Hk ≤ dk → ∀ (ua : Nat) (u0 : Option Nat) (u1 : Int32) (hh : ag_H) (res : (Int32) × ag_H), kR ua u0 u1 hh = some res → ag_Met gc_P l G m_Rd_readSum dk [.ref ua, ag_rf u0, .int u1] hh (fun v h' => v = some (.int res.1) ∧ h' = res.2)) (hH : Hk + 0 ≤ d) {x1 : Option Nat} {x2 : Int32} {h : ag_H} {res : (Int32) × ag_H} (hyp : fn_Rd_readFactor_0 N C kR a x1 x2 h = some res) : ag_ev gc_P l G m_Rd_readFactor (d + 1) (ag_ret gc_P G (fun v h' => v = some (.int res.1) ∧ h' = res.2)) 0 [(0, .ref a), (1, ag_rf (x1)), (2, .int (x2))] [] h := by
  unfold fn_Rd_readFactor_0 at hyp
  have hc : ag_C1 [(0, .ref a), (1, ag_rf (x1)), (2, .int (x2))] := (ag_c1 rfl (ag_c1 (ag_cat_rf _) (ag_c1 rfl ag_c0)))
  refine gc_aload_n (r := (x1)) d_Rd_readFactor_0 rfl ?_
  obtain ⟨a2, ea2, hyp⟩ := md_bd hyp
  obtain ⟨r2, er2, hyp⟩ := md_bd hyp
  refine gc_callv (r := (x1)) (as := []) d_Rd_readFactor_1 ml_Rd_55 gw_299 rfl sl_Ln_sign ea2 (Nat.le_of_ble_eq_true rfl) (w_Ln_sign hC (d := d) (by omega) er2) (fun v2 h2 q2 => ?_)
  obtain ⟨rfl, rfl⟩ := q2
  refine gc_istore_n d_Rd_readFactor_4 (by decide) hc ?_
  replace hc := ag_cs (i := 3) (v := .int (r2.1)) hc rfl
  refine ag_iload_n d_Rd_readFactor_5 rfl ?_
  refine ag_bipush d_Rd_readFactor_6 ?_
  refine ag_icmp_ne d_Rd_readFactor_8 rfl (fun q => ?_) (fun q => ?_)
  · replace hyp := md_ifn q hyp
    refine ag_iload_n d_Rd_readFactor_60 rfl ?_
    obtain ⟨r8, er8, hyp⟩ := md_bd hyp
    refine ag_calls (as := [.int (r2.1)]) d_Rd_readFactor_61 ml_Rd_80 gw_338 (Nat.le_of_ble_eq_true rfl) (w_Rd_isVariable hC (d := d) (by omega) er8) (fun v8 h8 q8 => ?_)
    obtain ⟨rfl, rfl⟩ := q8
    refine ag_if_eq d_Rd_readFactor_64 rfl (fun q => ?_) (fun q => ?_)
    · replace hyp := md_ifp q hyp
      refine gc_aload_n (r := (x1)) d_Rd_readFactor_104 rfl ?_
      obtain ⟨a11, ea11, hyp⟩ := md_bd hyp
      obtain ⟨r11, er11, hyp⟩ := md_bd hyp
      refine gc_callv (r := (x1)) (as := []) d_Rd_readFactor_105 ml_Rd_84 gw_342 rfl sl_Ln_digits ea11 (Nat.le_of_ble_eq_true rfl) (w_Ln_digits hC (d := d) (by omega) er11) (fun v11 h11 q11 => ?_)
      obtain ⟨rfl, rfl⟩ := q11
      refine gc_istore d_Rd_readFactor_108 (by decide) hc ?_
      replace hc := ag_cs (i := 4) (v := .int (r11.1)) hc rfl
      refine ag_iload d_Rd_readFactor_110 rfl ?_
      refine ag_if_lt d_Rd_readFactor_112 rfl (fun q => ?_) (fun q => ?_)
      · replace hyp := md_ifp q hyp
        exact ag_dr (ag_d1 rfl ag_d0) (w_Rd_readFactor_128 hC hkR hH hyp)
      · replace hyp := md_ifn q hyp
        refine gc_aload_n (r := (some (a))) d_Rd_readFactor_115 rfl ?_
        refine ag_iload d_Rd_readFactor_116 rfl ?_
        obtain ⟨a17, ea17, hyp⟩ := md_bd hyp
        obtain ⟨r17, er17, hyp⟩ := md_bd hyp
        refine gc_callv (r := (some (a))) (as := [.int (r11.1)]) d_Rd_readFactor_118 ml_Rd_105 gw_446 rfl sl_Rd_addStep ea17 (Nat.le_of_ble_eq_true rfl) (w_Rd_addStep hC (d := d) (by omega) er17) (fun v17 h17 q17 => ?_)
        obtain ⟨rfl, rfl⟩ := q17
        refine ag_if_eq d_Rd_readFactor_121 rfl (fun q => ?_) (fun q => ?_)
        · replace hyp := md_ifp q hyp
          exact ag_dr (ag_d1 rfl ag_d0) (w_Rd_readFactor_128 hC hkR hH hyp)
        · replace hyp := md_ifn q hyp
          refine ag_iconst d_Rd_readFactor_124 ?_
          refine ag_goto d_Rd_readFactor_125 rfl ?_
          exact ag_dr (ag_d1 rfl ag_d0) (w_Rd_readFactor_129 hC hkR hH hyp)
    · replace hyp := md_ifn q hyp
      refine gc_aload_n (r := (x1)) d_Rd_readFactor_67 rfl ?_
      refine ag_dup d_Rd_readFactor_68 (ag_cat_rf _) ?_
      obtain ⟨g23, eg23, hyp⟩ := md_bd hyp
      refine gc_geti (r := (x1)) d_Rd_readFactor_69 fr_Rd_15 eg23 ?_
      refine ag_iconst d_Rd_readFactor_72 ?_
      refine ag_iadd d_Rd_readFactor_73 ?_
      obtain ⟨h26, eh26, hyp⟩ := md_bd hyp
      refine gc_putf (r := (x1)) d_Rd_readFactor_74 fl_Rd_15 (fun q => by cases q) eh26 ?_
      refine gc_aload_n (r := (some (a))) d_Rd_readFactor_77 rfl ?_
      refine ag_dup d_Rd_readFactor_78 rfl ?_
      obtain ⟨g29, eg29, hyp⟩ := md_bd hyp
      refine gc_geti (r := (some (a))) d_Rd_readFactor_79 fr_Rd_24 eg29 ?_
      refine ag_iconst d_Rd_readFactor_82 ?_
      refine ag_iload_n d_Rd_readFactor_83 rfl ?_
      refine ag_bipush d_Rd_readFactor_84 ?_
      refine ag_isub d_Rd_readFactor_86 ?_
      refine ag_ishl d_Rd_readFactor_87 ?_
      refine ag_ior d_Rd_readFactor_88 ?_
      obtain ⟨h36, eh36, hyp⟩ := md_bd hyp
      refine gc_putf (r := (some (a))) d_Rd_readFactor_89 fl_Rd_24 (fun q => by cases q) eh36 ?_
      refine gc_aload_n (r := (some (a))) d_Rd_readFactor_92 rfl ?_
      refine ag_ldc d_Rd_readFactor_93 gw_340 ?_
      refine ag_iload_n d_Rd_readFactor_95 rfl ?_
      refine ag_bipush d_Rd_readFactor_96 ?_
      refine ag_isub d_Rd_readFactor_98 ?_
      refine ag_iadd d_Rd_readFactor_99 ?_
      obtain ⟨a43, ea43, hyp⟩ := md_bd hyp
      obtain ⟨r43, er43, hyp⟩ := md_bd hyp
      refine gc_callv (r := (some (a))) (as := [.int (((1048576 : Int32)) + ((r2.1) - ((Int8.ofInt (65)).toInt32)))]) d_Rd_readFactor_100 ml_Rd_105 gw_446 rfl sl_Rd_addStep ea43 (Nat.le_of_ble_eq_true rfl) (w_Rd_addStep hC (d := d) (by omega) er43) (fun v43 h43 q43 => ?_)
      obtain ⟨rfl, rfl⟩ := q43
      obtain ⟨q44, hyp⟩ := md_ifs hyp
      cases hyp
      exact ag_iret d_Rd_readFactor_103 rfl (md_01n q44) ⟨rfl, rfl⟩
  · replace hyp := md_ifp q hyp
    refine gc_aload_n (r := (x1)) d_Rd_readFactor_11 rfl ?_
    refine ag_dup d_Rd_readFactor_12 (ag_cat_rf _) ?_
    obtain ⟨g47, eg47, hyp⟩ := md_bd hyp
    refine gc_geti (r := (x1)) d_Rd_readFactor_13 fr_Rd_15 eg47 ?_
    refine ag_iconst d_Rd_readFactor_16 ?_
    refine ag_iadd d_Rd_readFactor_17 ?_
    obtain ⟨h50, eh50, hyp⟩ := md_bd hyp
    refine gc_putf (r := (x1)) d_Rd_readFactor_18 fl_Rd_15 (fun q => by cases q) eh50 ?_
    refine ag_iload_n d_Rd_readFactor_21 rfl ?_
    refine ag_iconst d_Rd_readFactor_22 ?_
    refine ag_icmp_ge d_Rd_readFactor_23 rfl (fun q => ?_) (fun q => ?_)
    · replace hyp := md_ifp q hyp
      exact ag_dr (ag_d1 rfl ag_d0) (w_Rd_readFactor_46 hC hkR hH hyp)
    · replace hyp := md_ifn q hyp
      refine gc_aload_n (r := (some (a))) d_Rd_readFactor_26 rfl ?_
      refine gc_aload_n (r := (x1)) d_Rd_readFactor_27 rfl ?_
      refine ag_iload_n d_Rd_readFactor_28 rfl ?_
      refine ag_iconst d_Rd_readFactor_29 ?_
      refine ag_iadd d_Rd_readFactor_30 ?_
      obtain ⟨a59, ea59, hyp⟩ := md_bd hyp
      obtain ⟨r59, er59, hyp⟩ := md_bd hyp
      refine gc_callv (r := (some (a))) (as := [ag_rf (x1), .int ((x2) + (Int32.ofInt 1))]) d_Rd_readFactor_31 ml_Rd_97 gw_434 rfl sl_Rd_readSum ea59 (Nat.le_of_ble_eq_true rfl) (hkR d (by omega) _ _ _ _ _ er59) (fun v59 h59 q59 => ?_)
      obtain ⟨rfl, rfl⟩ := q59
      refine ag_if_eq d_Rd_readFactor_34 rfl (fun q => ?_) (fun q => ?_)
      · replace hyp := md_ifp q hyp
        exact ag_dr (ag_d1 rfl ag_d0) (w_Rd_readFactor_46 hC hkR hH hyp)
      · replace hyp := md_ifn q hyp
        refine gc_aload_n (r := (x1)) d_Rd_readFactor_37 rfl ?_
        obtain ⟨a62, ea62, hyp⟩ := md_bd hyp
        obtain ⟨r62, er62, hyp⟩ := md_bd hyp
        refine gc_callv (r := (x1)) (as := []) d_Rd_readFactor_38 ml_Rd_55 gw_299 rfl sl_Ln_sign ea62 (Nat.le_of_ble_eq_true rfl) (w_Ln_sign hC (d := d) (by omega) er62) (fun v62 h62 q62 => ?_)
        obtain ⟨rfl, rfl⟩ := q62
        refine ag_bipush d_Rd_readFactor_41 ?_
        refine ag_icmp_eq d_Rd_readFactor_43 rfl (fun q => ?_) (fun q => ?_)
        · replace hyp := md_ifp q hyp
          refine gc_aload_n (r := (x1)) d_Rd_readFactor_48 rfl ?_
          refine ag_dup d_Rd_readFactor_49 (ag_cat_rf _) ?_
          obtain ⟨g67, eg67, hyp⟩ := md_bd hyp
          refine gc_geti (r := (x1)) d_Rd_readFactor_50 fr_Rd_15 eg67 ?_
          refine ag_iconst d_Rd_readFactor_53 ?_
          refine ag_iadd d_Rd_readFactor_54 ?_
          obtain ⟨h70, eh70, hyp⟩ := md_bd hyp
          refine gc_putf (r := (x1)) d_Rd_readFactor_55 fl_Rd_15 (fun q => by cases q) eh70 ?_
          refine ag_iconst d_Rd_readFactor_58 ?_
          obtain ⟨q72, hyp⟩ := md_ifs hyp
          cases hyp
          exact ag_iret d_Rd_readFactor_59 rfl (md_01n q72) ⟨rfl, rfl⟩
        · replace hyp := md_ifn q hyp
          exact ag_dr (ag_d1 rfl ag_d0) (w_Rd_readFactor_46 hC hkR hH hyp)
theorem w_Rd_readFactor {l : Launch} {G : ag_G} {d N Hk : Nat} {C : Nat × Nat} {kR : Nat → Option Nat → Int32 → ag_H → Option ((Int32) × ag_H)} (hC : ag_cN G = C.1 ∧ ag_cS G = C.2) (hkR : ∀ (dk : Nat), Hk ≤ dk → ∀ (ua : Nat) (u0 : Option Nat) (u1 : Int32) (hh : ag_H) (res : (Int32) × ag_H), kR ua u0 u1 hh = some res → ag_Met gc_P l G m_Rd_readSum dk [.ref ua, ag_rf u0, .int u1] hh (fun v h' => v = some (.int res.1) ∧ h' = res.2)) (hH : Hk + 0 + 1 ≤ d) {a : Nat} {p1 : Option Nat} {p2 : Int32} {h : ag_H} {res : (Int32) × ag_H} (hyp : fn_Rd_readFactor N C kR a p1 p2 h = some res) : ag_Met gc_P l G m_Rd_readFactor d [.ref a, ag_rf (p1), .int (p2)] h (fun v h' => v = some (.int res.1) ∧ h' = res.2) := by
  obtain ⟨d, rfl, hG⟩ := md_dd hH
  exact ag_met0 (by decide) rfl (ag_v1 rfl (ag_v1 (ag_cat_rf _) (ag_v1 rfl ag_v0))) (Nat.le_of_ble_eq_true rfl) (ag_dr (ag_d1 rfl (ag_d1 rfl (ag_d1 rfl ag_d0))) (w_Rd_readFactor_0 hC hkR hG hyp))
