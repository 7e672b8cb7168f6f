/-! ### The law from its entry to its loop -/
def gx_N : Nat := 100000
def gx_C : Nat × Nat := (600004, 7302232)
def gx_h0 : ag_H := (2, 0, fun _ => mi_d)
def gx_g : ag_H := ag_nw gx_h0 10 (.inr (0, [.null, .null, .null, .null, .null, .null, .null, .int 0, .int 0, .int 0]))
def gx_h1 : ag_H := match fn_GC_init gx_N gx_C 2 gx_g with
  | some r => r.2
  | none => gx_h0
theorem gx_s : (fn_GC_init gx_N gx_C 2 gx_g).isSome = true := by decide +kernel
theorem gx_e : ∃ r, fn_GC_init gx_N gx_C 2 gx_g = some (r, gx_h1) := by
  have h := gx_s
  unfold gx_h1
  cases e : fn_GC_init gx_N gx_C 2 gx_g with
  | none => rw [e] at h; cases h
  | some r => exact ⟨r.1, rfl⟩
def gx_b : Nat := gx_h1.1
def gx_oc : ag_C := .inl (3, 1, .inr (.inl (fun _ => 0)))
def gx_h2 : ag_H := ag_nw (gx_b + 22, gx_h1.2.1 + 46 + 6773, gx_h1.2.2) 1 gx_oc
theorem gx_c1 : gx_h1.1 + 24 ≤ gx_C.1 := by decide +kernel
theorem gx_c2 : gx_h1.2.1 + 6820 ≤ gx_C.2 := by decide +kernel
theorem gx_c3 : 2 < gx_h1.1 := by decide +kernel
theorem mi_0 (h : ag_H) (fs : List Value) (n : Nat) : ag_nw h n (.inr (10, fs)) = mi_h h h.1 fs [] (h.2.1 + n) := by
  unfold ag_nw mi_h
  refine Prod.ext rfl (Prod.ext rfl (funext fun q => ?_))
  show (if q = h.1 then _ else h.2.2 q) = (if q = h.1 then _ else if h.1 < q ∧ q ≤ h.1 + 0 then _ else h.2.2 q)
  by_cases e : q = h.1
  · rw [if_pos e, if_pos e]
  · rw [if_neg e, if_neg e, if_neg (by omega)]
theorem lw_nwo {b n : Nat} {h : ag_H} (w : b + 21 < h.1) (S : MS) (c : ag_C) : ag_nw (md_up h b S) n c = md_up (ag_nw h n c) b S := by
  unfold ag_nw md_up
  refine Prod.ext rfl (Prod.ext rfl (funext fun q => ?_))
  show (if q = h.1 then c else _) = (if q < b then (if q = h.1 then c else h.2.2 q) else if q = b then _ else if q ≤ b + 21 then _ else (if q = h.1 then c else h.2.2 q))
  by_cases e : q = h.1
  · rw [if_pos e, if_neg (by omega), if_neg (by omega), if_neg (by omega), if_pos e]
  · rw [if_neg e, if_neg e]
theorem lw_entry0 {l : Launch} {G : ag_G} {D N : Nat} {C : Nat × Nat} {h1 : ag_H} {r : Int32} (hC : ag_cN G = C.1 ∧ ag_cS G = C.2) (hD : 60 ≤ D) {Z : ag_Z} (q0 : gx_h0.1 + 1 ≤ C.1 ∧ gx_h0.2.1 + 10 ≤ C.2) (hyp : fn_GC_init N C 2 gx_g = some (r, h1)) (q1 : h1.1 + 24 ≤ C.1) (q2 : h1.2.1 + 6820 ≤ C.2) (q3 : 2 < h1.1)
    (k : ag_ev gc_P l G m_law (D + 1 + 1) Z 23 [(0, .ref 0), (1, .ref 2), (2, .ref h1.1), (3, .ref (h1.1 + 22)), (4, .int (Int32.ofNat (5 * 0)))] [] (md_up (ag_nw (h1.1 + 22, h1.2.1 + 46 + 6773, h1.2.2) 1 gx_oc) h1.1 md_S0)) : ag_ev gc_P l G m_law (D + 1 + 1) Z 0 [(0, .ref 0)] [] gx_h0 := by
  refine gc_new (ci := 0) hC d_law_0 gw_28 gw_29 gw_1 rfl nf_GC q0 ?_
  refine ag_dup d_law_3 rfl ?_
  refine ag_calli (a := 2) (as := []) d_law_4 ml_Lw_48 gw_31 rfl rfl (Nat.le_of_ble_eq_true rfl) (w_GC_init hC (d := D + 1) (by omega) hyp) (fun v9 h9 q9 => ?_)
  rw [show v9 = none from q9.1, show h9 = h1 from q9.2]
  refine ag_astoreV_n (v := .ref 2) d_law_7 (by decide) rfl ?_
  refine gc_new (ci := 10) hC d_law_8 gw_935 gw_936 gw_10 rfl nf_Md ⟨by show h1.1 + 1 ≤ _; omega, by show h1.2.1 + 46 ≤ _; omega⟩ ?_
  refine ag_dup d_law_11 rfl ?_
  rw [mi_0]
  refine ag_calli (a := h1.1) (as := []) d_law_12 ml_Lw_51 gw_938 rfl rfl (Nat.le_of_ble_eq_true rfl) (w_Md_init hC (d := D + 1) (by show 2 ≤ h1.1; omega) (by show h1.1 + 22 ≤ _; omega) (by show h1.2.1 + 46 + 6773 ≤ _; omega)) (fun v9 h9 q9 => ?_)
  rw [show v9 = none from q9.1, q9.2]
  rw [mi_md]
  refine ag_astoreV_n (v := .ref h1.1) d_law_15 (by decide) rfl ?_
  refine ag_iconst d_law_16 ?_
  refine gc_newl hC d_law_17 gw_1297 ⟨by decide, by decide, by show h1.1 + 22 + 1 ≤ _; omega, by show h1.2.1 + 46 + 6773 + 1 ≤ _; omega⟩ ?_
  rw [lw_nwo (by show h1.1 + 21 < h1.1 + 22; omega)]
  refine ag_astoreV_n (v := .ref (h1.1 + 22)) d_law_19 (by decide) rfl ?_
  refine ag_iconst d_law_20 ?_
  refine ag_istore d_law_21 (by decide) ?_
  exact k
theorem lw_entry {l : Launch} {G : ag_G} {D : Nat} (hC : ag_cN G = gx_C.1 ∧ ag_cS G = gx_C.2) (hD : 60 ≤ D) {Z : ag_Z} (k : ag_ev gc_P l G m_law (D + 1 + 1) Z 23 [(0, .ref 0), (1, .ref 2), (2, .ref gx_b), (3, .ref (gx_b + 22)), (4, .int (Int32.ofNat (5 * 0)))] [] (md_up gx_h2 gx_b md_S0)) : ag_ev gc_P l G m_law (D + 1 + 1) Z 0 [(0, .ref 0)] [] gx_h0 := by
  obtain ⟨r, hyp⟩ := gx_e
  exact lw_entry0 hC hD (by decide +kernel) hyp gx_c1 gx_c2 gx_c3 k
