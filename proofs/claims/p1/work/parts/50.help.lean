/-! ### The law's helpers -/
theorem ag_hd1 {P : ag_P} {own C X : String} {pc a b t ct : Nat} {r : List (Nat × Nat × Nat × Nat)} (h1 : a ≤ pc) (h2 : pc < b) (h3 : ct ≠ 0) (h4 : Cond.classLink own ct X ∈ P.1) (h5 : Cond.castable C X ∈ P.1) : ag_hd P own C pc t ((a, b, t, ct) :: r) := by
  unfold ag_hd
  rw [if_pos ⟨h1, h2⟩]
  exact ⟨h3, X, h4, Or.inl ⟨h5, rfl⟩⟩
theorem ag_hd2 {P : ag_P} {own C X : String} {pc a b t ct hp : Nat} {r : List (Nat × Nat × Nat × Nat)} (h1 : a ≤ pc) (h2 : pc < b) (h3 : ct ≠ 0) (h4 : Cond.classLink own ct X ∈ P.1) (h5 : Cond.not (.castable C X) ∈ P.1) (k : ag_hd P own C pc hp r) : ag_hd P own C pc hp ((a, b, t, ct) :: r) := by
  unfold ag_hd
  rw [if_pos ⟨h1, h2⟩]
  exact ⟨h3, X, h4, Or.inr ⟨h5, k⟩⟩
theorem nc_15_12 : Cond.not (.castable "java/lang/UnsupportedOperationException" "java/lang/IllegalArgumentException") ∈ gc_W := gc_N (List.mem_of_getElem? (i := 0) rfl)
theorem nc_13_12 : Cond.not (.castable "java/lang/IllegalStateException" "java/lang/IllegalArgumentException") ∈ gc_W := gc_N (List.mem_of_getElem? (i := 1) rfl)
theorem nc_14_12 : Cond.not (.castable "java/lang/IndexOutOfBoundsException" "java/lang/IllegalArgumentException") ∈ gc_W := gc_N (List.mem_of_getElem? (i := 2) rfl)
theorem nc_12_15 : Cond.not (.castable "java/lang/IllegalArgumentException" "java/lang/UnsupportedOperationException") ∈ gc_W := gc_N (List.mem_of_getElem? (i := 3) rfl)
theorem nc_13_15 : Cond.not (.castable "java/lang/IllegalStateException" "java/lang/UnsupportedOperationException") ∈ gc_W := gc_N (List.mem_of_getElem? (i := 4) rfl)
theorem nc_14_15 : Cond.not (.castable "java/lang/IndexOutOfBoundsException" "java/lang/UnsupportedOperationException") ∈ gc_W := gc_N (List.mem_of_getElem? (i := 5) rfl)
theorem nc_12_13 : Cond.not (.castable "java/lang/IllegalArgumentException" "java/lang/IllegalStateException") ∈ gc_W := gc_N (List.mem_of_getElem? (i := 6) rfl)
theorem nc_15_13 : Cond.not (.castable "java/lang/UnsupportedOperationException" "java/lang/IllegalStateException") ∈ gc_W := gc_N (List.mem_of_getElem? (i := 7) rfl)
theorem nc_14_13 : Cond.not (.castable "java/lang/IndexOutOfBoundsException" "java/lang/IllegalStateException") ∈ gc_W := gc_N (List.mem_of_getElem? (i := 8) rfl)
theorem nc_12_14 : Cond.not (.castable "java/lang/IllegalArgumentException" "java/lang/IndexOutOfBoundsException") ∈ gc_W := gc_N (List.mem_of_getElem? (i := 9) rfl)
theorem nc_15_14 : Cond.not (.castable "java/lang/UnsupportedOperationException" "java/lang/IndexOutOfBoundsException") ∈ gc_W := gc_N (List.mem_of_getElem? (i := 10) rfl)
theorem nc_13_14 : Cond.not (.castable "java/lang/IllegalStateException" "java/lang/IndexOutOfBoundsException") ∈ gc_W := gc_N (List.mem_of_getElem? (i := 11) rfl)
theorem v_Lw_clause {l : Launch} {G : ag_G} {d N : Nat} {C : Nat × Nat} (hC : ag_cN G = C.1 ∧ ag_cS G = C.2) (htr : ∀ e : Env, l.admits e → e.platform.stackTraces = false) (hH : 22 ≤ d) {a o : Nat} {h h1 : ag_H} {fs : List Value} (ha : ag_at h (.ref a) = some (.inr (0, fs))) {x : Int32} {f : Nat → Int64} (hyp : fn_GC_clause N C a  h = some (.inl x, h1)) (ho : ag_at h1 (.ref o) = some (.inl (3, 1, .inr (.inl f)))) : ag_MetW gc_P l G m_Lw_clause (d + 1) [.ref a, .ref o] h (fun v h' => v = some (.int 0) ∧ h' = ag_up h1 o (.inl (3, 1, .inr (.inl (vp_updL f 0 x.toInt64))))) := by
  refine ag_metW (by decide) (Nat.le_of_ble_eq_true rfl) ?_
  refine gc_aload_n (r := some o) d_Lw_clause_0 rfl ?_
  refine ag_iconst d_Lw_clause_1 ?_
  refine gc_aload_n (r := some a) d_Lw_clause_2 rfl ?_
  refine ag_callv (as := []) d_Lw_clause_3 ml_Lw_7 gw_284 rfl sl_GC_clause ha (Nat.le_of_ble_eq_true rfl) (w_GC_clause hC htr (d := d) hH hyp) (fun v h9 q => ?_)
  obtain ⟨rfl, rfl⟩ := q
  refine ag_i2l d_Lw_clause_6 ?_
  refine ag_last (t := 3) d_Lw_clause_7 rfl ho (md_in_ok (by decide)) ?_
  refine ag_goto d_Lw_clause_8 rfl ?_
  refine ag_iconst d_Lw_clause_20 ?_
  exact ag_iret d_Lw_clause_21 rfl rfl ⟨rfl, rfl⟩
theorem u_Lw_clause_12 {l : Launch} {G : ag_G} {d N : Nat} {C : Nat × Nat} (hC : ag_cN G = C.1 ∧ ag_cS G = C.2) (htr : ∀ e : Env, l.admits e → e.platform.stackTraces = false) (hH : 22 ≤ d) {a o : Nat} {h h1 : ag_H} {fs : List Value} (ha : ag_at h (.ref a) = some (.inr (0, fs))) {x : Nat} {fx : List Value} (hyp : fn_GC_clause N C a  h = some (.inr x, h1)) (hx : ag_at h1 (.ref x) = some (.inr (12, fx))) : ag_MetW gc_P l G m_Lw_clause (d + 1) [.ref a, .ref o] h (fun v h' => v = some (.int 1) ∧ h' = h1) := by
  refine ag_metW (by decide) (Nat.le_of_ble_eq_true rfl) ?_
  refine gc_aload_n (r := some o) d_Lw_clause_0 rfl ?_
  refine ag_iconst d_Lw_clause_1 ?_
  refine gc_aload_n (r := some a) d_Lw_clause_2 rfl ?_
  refine ag_callvT (as := []) d_Lw_clause_3 gw_283 ml_Lw_7 gw_284 rfl sl_GC_clause ha (Nat.le_of_ble_eq_true rfl) (t_GC_clause hC htr (d := d) hH hyp) (fun x9 h9 q => ?_)
  obtain ⟨rfl, rfl⟩ := q
  refine ⟨12, _, _, 11, hx, rfl, (ag_hd1 (Nat.le_of_ble_eq_true rfl) (Nat.le_of_ble_eq_true rfl) (by decide) gw_280 gw_495), ?_⟩
  refine gc_astore_n (r := some x9) d_Lw_clause_11 (by decide) ?_
  refine ag_iconst d_Lw_clause_12 ?_
  exact ag_iret d_Lw_clause_13 rfl rfl ⟨rfl, rfl⟩
theorem u_Lw_clause_15 {l : Launch} {G : ag_G} {d N : Nat} {C : Nat × Nat} (hC : ag_cN G = C.1 ∧ ag_cS G = C.2) (htr : ∀ e : Env, l.admits e → e.platform.stackTraces = false) (hH : 22 ≤ d) {a o : Nat} {h h1 : ag_H} {fs : List Value} (ha : ag_at h (.ref a) = some (.inr (0, fs))) {x : Nat} {fx : List Value} (hyp : fn_GC_clause N C a  h = some (.inr x, h1)) (hx : ag_at h1 (.ref x) = some (.inr (15, fx))) : ag_MetW gc_P l G m_Lw_clause (d + 1) [.ref a, .ref o] h (fun v h' => v = some (.int 2) ∧ h' = h1) := by
  refine ag_metW (by decide) (Nat.le_of_ble_eq_true rfl) ?_
  refine gc_aload_n (r := some o) d_Lw_clause_0 rfl ?_
  refine ag_iconst d_Lw_clause_1 ?_
  refine gc_aload_n (r := some a) d_Lw_clause_2 rfl ?_
  refine ag_callvT (as := []) d_Lw_clause_3 gw_283 ml_Lw_7 gw_284 rfl sl_GC_clause ha (Nat.le_of_ble_eq_true rfl) (t_GC_clause hC htr (d := d) hH hyp) (fun x9 h9 q => ?_)
  obtain ⟨rfl, rfl⟩ := q
  refine ⟨15, _, _, 14, hx, rfl, (ag_hd2 (Nat.le_of_ble_eq_true rfl) (Nat.le_of_ble_eq_true rfl) (by decide) gw_280 nc_15_12 (ag_hd1 (Nat.le_of_ble_eq_true rfl) (Nat.le_of_ble_eq_true rfl) (by decide) gw_281 gw_559)), ?_⟩
  refine gc_astore_n (r := some x9) d_Lw_clause_14 (by decide) ?_
  refine ag_iconst d_Lw_clause_15 ?_
  exact ag_iret d_Lw_clause_16 rfl rfl ⟨rfl, rfl⟩
theorem u_Lw_clause_13 {l : Launch} {G : ag_G} {d N : Nat} {C : Nat × Nat} (hC : ag_cN G = C.1 ∧ ag_cS G = C.2) (htr : ∀ e : Env, l.admits e → e.platform.stackTraces = false) (hH : 22 ≤ d) {a o : Nat} {h h1 : ag_H} {fs : List Value} (ha : ag_at h (.ref a) = some (.inr (0, fs))) {x : Nat} {fx : List Value} (hyp : fn_GC_clause N C a  h = some (.inr x, h1)) (hx : ag_at h1 (.ref x) = some (.inr (13, fx))) : ag_MetW gc_P l G m_Lw_clause (d + 1) [.ref a, .ref o] h (fun v h' => v = some (.int 3) ∧ h' = h1) := by
  refine ag_metW (by decide) (Nat.le_of_ble_eq_true rfl) ?_
  refine gc_aload_n (r := some o) d_Lw_clause_0 rfl ?_
  refine ag_iconst d_Lw_clause_1 ?_
  refine gc_aload_n (r := some a) d_Lw_clause_2 rfl ?_
  refine ag_callvT (as := []) d_Lw_clause_3 gw_283 ml_Lw_7 gw_284 rfl sl_GC_clause ha (Nat.le_of_ble_eq_true rfl) (t_GC_clause hC htr (d := d) hH hyp) (fun x9 h9 q => ?_)
  obtain ⟨rfl, rfl⟩ := q
  refine ⟨13, _, _, 17, hx, rfl, (ag_hd2 (Nat.le_of_ble_eq_true rfl) (Nat.le_of_ble_eq_true rfl) (by decide) gw_280 nc_13_12 (ag_hd2 (Nat.le_of_ble_eq_true rfl) (Nat.le_of_ble_eq_true rfl) (by decide) gw_281 nc_13_15 (ag_hd1 (Nat.le_of_ble_eq_true rfl) (Nat.le_of_ble_eq_true rfl) (by decide) gw_282 gw_574))), ?_⟩
  refine gc_astore_n (r := some x9) d_Lw_clause_17 (by decide) ?_
  refine ag_iconst d_Lw_clause_18 ?_
  exact ag_iret d_Lw_clause_19 rfl rfl ⟨rfl, rfl⟩
theorem v_Lw_desk {l : Launch} {G : ag_G} {d N : Nat} {C : Nat × Nat} (hC : ag_cN G = C.1 ∧ ag_cS G = C.2) (htr : ∀ e : Env, l.admits e → e.platform.stackTraces = false) (hH : 22 ≤ d) {a o : Nat} {h h1 : ag_H} {fs : List Value} (ha : ag_at h (.ref a) = some (.inr (0, fs))) {x : Int32} {f : Nat → Int64} (hyp : fn_GC_desk N C a  h = some (.inl x, h1)) (ho : ag_at h1 (.ref o) = some (.inl (3, 1, .inr (.inl f)))) : ag_MetW gc_P l G m_Lw_desk (d + 1) [.ref a, .ref o] h (fun v h' => v = some (.int 0) ∧ h' = ag_up h1 o (.inl (3, 1, .inr (.inl (vp_updL f 0 x.toInt64))))) := by
  refine ag_metW (by decide) (Nat.le_of_ble_eq_true rfl) ?_
  refine gc_aload_n (r := some o) d_Lw_desk_0 rfl ?_
  refine ag_iconst d_Lw_desk_1 ?_
  refine gc_aload_n (r := some a) d_Lw_desk_2 rfl ?_
  refine ag_callv (as := []) d_Lw_desk_3 ml_Lw_19 gw_597 rfl sl_GC_desk ha (Nat.le_of_ble_eq_true rfl) (w_GC_desk hC htr (d := d) hH hyp) (fun v h9 q => ?_)
  obtain ⟨rfl, rfl⟩ := q
  refine ag_i2l d_Lw_desk_6 ?_
  refine ag_last (t := 3) d_Lw_desk_7 rfl ho (md_in_ok (by decide)) ?_
  refine ag_goto d_Lw_desk_8 rfl ?_
  refine ag_iconst d_Lw_desk_17 ?_
  exact ag_iret d_Lw_desk_18 rfl rfl ⟨rfl, rfl⟩
theorem u_Lw_desk_12 {l : Launch} {G : ag_G} {d N : Nat} {C : Nat × Nat} (hC : ag_cN G = C.1 ∧ ag_cS G = C.2) (htr : ∀ e : Env, l.admits e → e.platform.stackTraces = false) (hH : 22 ≤ d) {a o : Nat} {h h1 : ag_H} {fs : List Value} (ha : ag_at h (.ref a) = some (.inr (0, fs))) {x : Nat} {fx : List Value} (hyp : fn_GC_desk N C a  h = some (.inr x, h1)) (hx : ag_at h1 (.ref x) = some (.inr (12, fx))) : ag_MetW gc_P l G m_Lw_desk (d + 1) [.ref a, .ref o] h (fun v h' => v = some (.int 1) ∧ h' = h1) := by
  refine ag_metW (by decide) (Nat.le_of_ble_eq_true rfl) ?_
  refine gc_aload_n (r := some o) d_Lw_desk_0 rfl ?_
  refine ag_iconst d_Lw_desk_1 ?_
  refine gc_aload_n (r := some a) d_Lw_desk_2 rfl ?_
  refine ag_callvT (as := []) d_Lw_desk_3 gw_596 ml_Lw_19 gw_597 rfl sl_GC_desk ha (Nat.le_of_ble_eq_true rfl) (t_GC_desk hC htr (d := d) hH hyp) (fun x9 h9 q => ?_)
  obtain ⟨rfl, rfl⟩ := q
  refine ⟨12, _, _, 11, hx, rfl, (ag_hd1 (Nat.le_of_ble_eq_true rfl) (Nat.le_of_ble_eq_true rfl) (by decide) gw_280 gw_495), ?_⟩
  refine gc_astore_n (r := some x9) d_Lw_desk_11 (by decide) ?_
  refine ag_iconst d_Lw_desk_12 ?_
  exact ag_iret d_Lw_desk_13 rfl rfl ⟨rfl, rfl⟩
theorem u_Lw_desk_13 {l : Launch} {G : ag_G} {d N : Nat} {C : Nat × Nat} (hC : ag_cN G = C.1 ∧ ag_cS G = C.2) (htr : ∀ e : Env, l.admits e → e.platform.stackTraces = false) (hH : 22 ≤ d) {a o : Nat} {h h1 : ag_H} {fs : List Value} (ha : ag_at h (.ref a) = some (.inr (0, fs))) {x : Nat} {fx : List Value} (hyp : fn_GC_desk N C a  h = some (.inr x, h1)) (hx : ag_at h1 (.ref x) = some (.inr (13, fx))) : ag_MetW gc_P l G m_Lw_desk (d + 1) [.ref a, .ref o] h (fun v h' => v = some (.int 2) ∧ h' = h1) := by
  refine ag_metW (by decide) (Nat.le_of_ble_eq_true rfl) ?_
  refine gc_aload_n (r := some o) d_Lw_desk_0 rfl ?_
  refine ag_iconst d_Lw_desk_1 ?_
  refine gc_aload_n (r := some a) d_Lw_desk_2 rfl ?_
  refine ag_callvT (as := []) d_Lw_desk_3 gw_596 ml_Lw_19 gw_597 rfl sl_GC_desk ha (Nat.le_of_ble_eq_true rfl) (t_GC_desk hC htr (d := d) hH hyp) (fun x9 h9 q => ?_)
  obtain ⟨rfl, rfl⟩ := q
  refine ⟨13, _, _, 14, hx, rfl, (ag_hd2 (Nat.le_of_ble_eq_true rfl) (Nat.le_of_ble_eq_true rfl) (by decide) gw_280 nc_13_12 (ag_hd1 (Nat.le_of_ble_eq_true rfl) (Nat.le_of_ble_eq_true rfl) (by decide) gw_282 gw_574)), ?_⟩
  refine gc_astore_n (r := some x9) d_Lw_desk_14 (by decide) ?_
  refine ag_iconst d_Lw_desk_15 ?_
  exact ag_iret d_Lw_desk_16 rfl rfl ⟨rfl, rfl⟩
theorem v_Lw_issue {l : Launch} {G : ag_G} {d N : Nat} {C : Nat × Nat} (hC : ag_cN G = C.1 ∧ ag_cS G = C.2) (htr : ∀ e : Env, l.admits e → e.platform.stackTraces = false) (hH : 8 ≤ d) {a o : Nat} {p1 : Int32} {h h1 : ag_H} {fs : List Value} (ha : ag_at h (.ref a) = some (.inr (0, fs))) {x : Int32} {f : Nat → Int64} (hyp : fn_GC_issue N C a p1 h = some (.inl x, h1)) (ho : ag_at h1 (.ref o) = some (.inl (3, 1, .inr (.inl f)))) : ag_MetW gc_P l G m_Lw_issue (d + 1) [.ref a, .int p1, .ref o] h (fun v h' => v = some (.int 0) ∧ h' = ag_up h1 o (.inl (3, 1, .inr (.inl (vp_updL f 0 x.toInt64))))) := by
  refine ag_metW (by decide) (Nat.le_of_ble_eq_true rfl) ?_
  refine gc_aload_n (r := some o) d_Lw_issue_0 rfl ?_
  refine ag_iconst d_Lw_issue_1 ?_
  refine gc_aload_n (r := some a) d_Lw_issue_2 rfl ?_
  refine ag_iload_n d_Lw_issue_3 rfl ?_
  refine ag_callv (as := [.int p1]) d_Lw_issue_4 ml_Lw_22 gw_604 rfl sl_GC_issue ha (Nat.le_of_ble_eq_true rfl) (w_GC_issue hC htr (d := d) hH hyp) (fun v h9 q => ?_)
  obtain ⟨rfl, rfl⟩ := q
  refine ag_i2l d_Lw_issue_7 ?_
  refine ag_last (t := 3) d_Lw_issue_8 rfl ho (md_in_ok (by decide)) ?_
  refine ag_goto d_Lw_issue_9 rfl ?_
  refine ag_iconst d_Lw_issue_18 ?_
  exact ag_iret d_Lw_issue_19 rfl rfl ⟨rfl, rfl⟩
theorem u_Lw_issue_12 {l : Launch} {G : ag_G} {d N : Nat} {C : Nat × Nat} (hC : ag_cN G = C.1 ∧ ag_cS G = C.2) (htr : ∀ e : Env, l.admits e → e.platform.stackTraces = false) (hH : 8 ≤ d) {a o : Nat} {p1 : Int32} {h h1 : ag_H} {fs : List Value} (ha : ag_at h (.ref a) = some (.inr (0, fs))) {x : Nat} {fx : List Value} (hyp : fn_GC_issue N C a p1 h = some (.inr x, h1)) (hx : ag_at h1 (.ref x) = some (.inr (12, fx))) : ag_MetW gc_P l G m_Lw_issue (d + 1) [.ref a, .int p1, .ref o] h (fun v h' => v = some (.int 1) ∧ h' = h1) := by
  refine ag_metW (by decide) (Nat.le_of_ble_eq_true rfl) ?_
  refine gc_aload_n (r := some o) d_Lw_issue_0 rfl ?_
  refine ag_iconst d_Lw_issue_1 ?_
  refine gc_aload_n (r := some a) d_Lw_issue_2 rfl ?_
  refine ag_iload_n d_Lw_issue_3 rfl ?_
  refine ag_callvT (as := [.int p1]) d_Lw_issue_4 gw_603 ml_Lw_22 gw_604 rfl sl_GC_issue ha (Nat.le_of_ble_eq_true rfl) (t_GC_issue hC htr (d := d) hH hyp) (fun x9 h9 q => ?_)
  obtain ⟨rfl, rfl⟩ := q
  refine ⟨12, _, _, 12, hx, rfl, (ag_hd1 (Nat.le_of_ble_eq_true rfl) (Nat.le_of_ble_eq_true rfl) (by decide) gw_280 gw_495), ?_⟩
  refine gc_astore_n (r := some x9) d_Lw_issue_12 (by decide) ?_
  refine ag_iconst d_Lw_issue_13 ?_
  exact ag_iret d_Lw_issue_14 rfl rfl ⟨rfl, rfl⟩
theorem u_Lw_issue_13 {l : Launch} {G : ag_G} {d N : Nat} {C : Nat × Nat} (hC : ag_cN G = C.1 ∧ ag_cS G = C.2) (htr : ∀ e : Env, l.admits e → e.platform.stackTraces = false) (hH : 8 ≤ d) {a o : Nat} {p1 : Int32} {h h1 : ag_H} {fs : List Value} (ha : ag_at h (.ref a) = some (.inr (0, fs))) {x : Nat} {fx : List Value} (hyp : fn_GC_issue N C a p1 h = some (.inr x, h1)) (hx : ag_at h1 (.ref x) = some (.inr (13, fx))) : ag_MetW gc_P l G m_Lw_issue (d + 1) [.ref a, .int p1, .ref o] h (fun v h' => v = some (.int 2) ∧ h' = h1) := by
  refine ag_metW (by decide) (Nat.le_of_ble_eq_true rfl) ?_
  refine gc_aload_n (r := some o) d_Lw_issue_0 rfl ?_
  refine ag_iconst d_Lw_issue_1 ?_
  refine gc_aload_n (r := some a) d_Lw_issue_2 rfl ?_
  refine ag_iload_n d_Lw_issue_3 rfl ?_
  refine ag_callvT (as := [.int p1]) d_Lw_issue_4 gw_603 ml_Lw_22 gw_604 rfl sl_GC_issue ha (Nat.le_of_ble_eq_true rfl) (t_GC_issue hC htr (d := d) hH hyp) (fun x9 h9 q => ?_)
  obtain ⟨rfl, rfl⟩ := q
  refine ⟨13, _, _, 15, hx, rfl, (ag_hd2 (Nat.le_of_ble_eq_true rfl) (Nat.le_of_ble_eq_true rfl) (by decide) gw_280 nc_13_12 (ag_hd1 (Nat.le_of_ble_eq_true rfl) (Nat.le_of_ble_eq_true rfl) (by decide) gw_282 gw_574)), ?_⟩
  refine gc_astore_n (r := some x9) d_Lw_issue_15 (by decide) ?_
  refine ag_iconst d_Lw_issue_16 ?_
  exact ag_iret d_Lw_issue_17 rfl rfl ⟨rfl, rfl⟩
theorem v_Lw_append {l : Launch} {G : ag_G} {d N : Nat} {C : Nat × Nat} (hC : ag_cN G = C.1 ∧ ag_cS G = C.2) (htr : ∀ e : Env, l.admits e → e.platform.stackTraces = false) (hH : 8 ≤ d) {a o : Nat} {p1 : Int32} {h h1 : ag_H} {fs : List Value} (ha : ag_at h (.ref a) = some (.inr (0, fs))) {x : Int32} {f : Nat → Int64} (hyp : fn_GC_append N C a p1 h = some (.inl x, h1)) (ho : ag_at h1 (.ref o) = some (.inl (3, 1, .inr (.inl f)))) : ag_MetW gc_P l G m_Lw_append (d + 1) [.ref a, .int p1, .ref o] h (fun v h' => v = some (.int 0) ∧ h' = ag_up h1 o (.inl (3, 1, .inr (.inl (vp_updL f 0 x.toInt64))))) := by
  refine ag_metW (by decide) (Nat.le_of_ble_eq_true rfl) ?_
  refine gc_aload_n (r := some o) d_Lw_append_0 rfl ?_
  refine ag_iconst d_Lw_append_1 ?_
  refine gc_aload_n (r := some a) d_Lw_append_2 rfl ?_
  refine ag_iload_n d_Lw_append_3 rfl ?_
  refine ag_callv (as := [.int p1]) d_Lw_append_4 ml_Lw_26 gw_685 rfl sl_GC_append ha (Nat.le_of_ble_eq_true rfl) (w_GC_append hC htr (d := d) hH hyp) (fun v h9 q => ?_)
  obtain ⟨rfl, rfl⟩ := q
  refine ag_i2l d_Lw_append_7 ?_
  refine ag_last (t := 3) d_Lw_append_8 rfl ho (md_in_ok (by decide)) ?_
  refine ag_goto d_Lw_append_9 rfl ?_
  refine ag_iconst d_Lw_append_18 ?_
  exact ag_iret d_Lw_append_19 rfl rfl ⟨rfl, rfl⟩
theorem u_Lw_append_14 {l : Launch} {G : ag_G} {d N : Nat} {C : Nat × Nat} (hC : ag_cN G = C.1 ∧ ag_cS G = C.2) (htr : ∀ e : Env, l.admits e → e.platform.stackTraces = false) (hH : 8 ≤ d) {a o : Nat} {p1 : Int32} {h h1 : ag_H} {fs : List Value} (ha : ag_at h (.ref a) = some (.inr (0, fs))) {x : Nat} {fx : List Value} (hyp : fn_GC_append N C a p1 h = some (.inr x, h1)) (hx : ag_at h1 (.ref x) = some (.inr (14, fx))) : ag_MetW gc_P l G m_Lw_append (d + 1) [.ref a, .int p1, .ref o] h (fun v h' => v = some (.int 1) ∧ h' = h1) := by
  refine ag_metW (by decide) (Nat.le_of_ble_eq_true rfl) ?_
  refine gc_aload_n (r := some o) d_Lw_append_0 rfl ?_
  refine ag_iconst d_Lw_append_1 ?_
  refine gc_aload_n (r := some a) d_Lw_append_2 rfl ?_
  refine ag_iload_n d_Lw_append_3 rfl ?_
  refine ag_callvT (as := [.int p1]) d_Lw_append_4 gw_684 ml_Lw_26 gw_685 rfl sl_GC_append ha (Nat.le_of_ble_eq_true rfl) (t_GC_append hC htr (d := d) hH hyp) (fun x9 h9 q => ?_)
  obtain ⟨rfl, rfl⟩ := q
  refine ⟨14, _, _, 12, hx, rfl, (ag_hd1 (Nat.le_of_ble_eq_true rfl) (Nat.le_of_ble_eq_true rfl) (by decide) gw_683 gw_694), ?_⟩
  refine gc_astore_n (r := some x9) d_Lw_append_12 (by decide) ?_
  refine ag_iconst d_Lw_append_13 ?_
  exact ag_iret d_Lw_append_14 rfl rfl ⟨rfl, rfl⟩
theorem u_Lw_append_13 {l : Launch} {G : ag_G} {d N : Nat} {C : Nat × Nat} (hC : ag_cN G = C.1 ∧ ag_cS G = C.2) (htr : ∀ e : Env, l.admits e → e.platform.stackTraces = false) (hH : 8 ≤ d) {a o : Nat} {p1 : Int32} {h h1 : ag_H} {fs : List Value} (ha : ag_at h (.ref a) = some (.inr (0, fs))) {x : Nat} {fx : List Value} (hyp : fn_GC_append N C a p1 h = some (.inr x, h1)) (hx : ag_at h1 (.ref x) = some (.inr (13, fx))) : ag_MetW gc_P l G m_Lw_append (d + 1) [.ref a, .int p1, .ref o] h (fun v h' => v = some (.int 2) ∧ h' = h1) := by
  refine ag_metW (by decide) (Nat.le_of_ble_eq_true rfl) ?_
  refine gc_aload_n (r := some o) d_Lw_append_0 rfl ?_
  refine ag_iconst d_Lw_append_1 ?_
  refine gc_aload_n (r := some a) d_Lw_append_2 rfl ?_
  refine ag_iload_n d_Lw_append_3 rfl ?_
  refine ag_callvT (as := [.int p1]) d_Lw_append_4 gw_684 ml_Lw_26 gw_685 rfl sl_GC_append ha (Nat.le_of_ble_eq_true rfl) (t_GC_append hC htr (d := d) hH hyp) (fun x9 h9 q => ?_)
  obtain ⟨rfl, rfl⟩ := q
  refine ⟨13, _, _, 15, hx, rfl, (ag_hd2 (Nat.le_of_ble_eq_true rfl) (Nat.le_of_ble_eq_true rfl) (by decide) gw_683 nc_13_14 (ag_hd1 (Nat.le_of_ble_eq_true rfl) (Nat.le_of_ble_eq_true rfl) (by decide) gw_282 gw_574)), ?_⟩
  refine gc_astore_n (r := some x9) d_Lw_append_15 (by decide) ?_
  refine ag_iconst d_Lw_append_16 ?_
  exact ag_iret d_Lw_append_17 rfl rfl ⟨rfl, rfl⟩
theorem v_Lw_seal {l : Launch} {G : ag_G} {d N : Nat} {C : Nat × Nat} (hC : ag_cN G = C.1 ∧ ag_cS G = C.2) (htr : ∀ e : Env, l.admits e → e.platform.stackTraces = false) (hH : 7 ≤ d) {a o : Nat} {p1 : Int32} {h h1 : ag_H} {fs : List Value} (ha : ag_at h (.ref a) = some (.inr (0, fs))) {x : Int32} {f : Nat → Int64} (hyp : fn_GC_seal N C a p1 h = some (.inl x, h1)) (ho : ag_at h1 (.ref o) = some (.inl (3, 1, .inr (.inl f)))) : ag_MetW gc_P l G m_Lw_seal (d + 1) [.ref a, .int p1, .ref o] h (fun v h' => v = some (.int 0) ∧ h' = ag_up h1 o (.inl (3, 1, .inr (.inl (vp_updL f 0 x.toInt64))))) := by
  refine ag_metW (by decide) (Nat.le_of_ble_eq_true rfl) ?_
  refine gc_aload_n (r := some o) d_Lw_seal_0 rfl ?_
  refine ag_iconst d_Lw_seal_1 ?_
  refine gc_aload_n (r := some a) d_Lw_seal_2 rfl ?_
  refine ag_iload_n d_Lw_seal_3 rfl ?_
  refine ag_callv (as := [.int p1]) d_Lw_seal_4 ml_Lw_31 gw_743 rfl sl_GC_seal ha (Nat.le_of_ble_eq_true rfl) (w_GC_seal hC htr (d := d) hH hyp) (fun v h9 q => ?_)
  obtain ⟨rfl, rfl⟩ := q
  refine ag_i2l d_Lw_seal_7 ?_
  refine ag_last (t := 3) d_Lw_seal_8 rfl ho (md_in_ok (by decide)) ?_
  refine ag_goto d_Lw_seal_9 rfl ?_
  refine ag_iconst d_Lw_seal_18 ?_
  exact ag_iret d_Lw_seal_19 rfl rfl ⟨rfl, rfl⟩
theorem u_Lw_seal_14 {l : Launch} {G : ag_G} {d N : Nat} {C : Nat × Nat} (hC : ag_cN G = C.1 ∧ ag_cS G = C.2) (htr : ∀ e : Env, l.admits e → e.platform.stackTraces = false) (hH : 7 ≤ d) {a o : Nat} {p1 : Int32} {h h1 : ag_H} {fs : List Value} (ha : ag_at h (.ref a) = some (.inr (0, fs))) {x : Nat} {fx : List Value} (hyp : fn_GC_seal N C a p1 h = some (.inr x, h1)) (hx : ag_at h1 (.ref x) = some (.inr (14, fx))) : ag_MetW gc_P l G m_Lw_seal (d + 1) [.ref a, .int p1, .ref o] h (fun v h' => v = some (.int 1) ∧ h' = h1) := by
  refine ag_metW (by decide) (Nat.le_of_ble_eq_true rfl) ?_
  refine gc_aload_n (r := some o) d_Lw_seal_0 rfl ?_
  refine ag_iconst d_Lw_seal_1 ?_
  refine gc_aload_n (r := some a) d_Lw_seal_2 rfl ?_
  refine ag_iload_n d_Lw_seal_3 rfl ?_
  refine ag_callvT (as := [.int p1]) d_Lw_seal_4 gw_742 ml_Lw_31 gw_743 rfl sl_GC_seal ha (Nat.le_of_ble_eq_true rfl) (t_GC_seal hC htr (d := d) hH hyp) (fun x9 h9 q => ?_)
  obtain ⟨rfl, rfl⟩ := q
  refine ⟨14, _, _, 12, hx, rfl, (ag_hd1 (Nat.le_of_ble_eq_true rfl) (Nat.le_of_ble_eq_true rfl) (by decide) gw_683 gw_694), ?_⟩
  refine gc_astore_n (r := some x9) d_Lw_seal_12 (by decide) ?_
  refine ag_iconst d_Lw_seal_13 ?_
  exact ag_iret d_Lw_seal_14 rfl rfl ⟨rfl, rfl⟩
theorem u_Lw_seal_13 {l : Launch} {G : ag_G} {d N : Nat} {C : Nat × Nat} (hC : ag_cN G = C.1 ∧ ag_cS G = C.2) (htr : ∀ e : Env, l.admits e → e.platform.stackTraces = false) (hH : 7 ≤ d) {a o : Nat} {p1 : Int32} {h h1 : ag_H} {fs : List Value} (ha : ag_at h (.ref a) = some (.inr (0, fs))) {x : Nat} {fx : List Value} (hyp : fn_GC_seal N C a p1 h = some (.inr x, h1)) (hx : ag_at h1 (.ref x) = some (.inr (13, fx))) : ag_MetW gc_P l G m_Lw_seal (d + 1) [.ref a, .int p1, .ref o] h (fun v h' => v = some (.int 2) ∧ h' = h1) := by
  refine ag_metW (by decide) (Nat.le_of_ble_eq_true rfl) ?_
  refine gc_aload_n (r := some o) d_Lw_seal_0 rfl ?_
  refine ag_iconst d_Lw_seal_1 ?_
  refine gc_aload_n (r := some a) d_Lw_seal_2 rfl ?_
  refine ag_iload_n d_Lw_seal_3 rfl ?_
  refine ag_callvT (as := [.int p1]) d_Lw_seal_4 gw_742 ml_Lw_31 gw_743 rfl sl_GC_seal ha (Nat.le_of_ble_eq_true rfl) (t_GC_seal hC htr (d := d) hH hyp) (fun x9 h9 q => ?_)
  obtain ⟨rfl, rfl⟩ := q
  refine ⟨13, _, _, 15, hx, rfl, (ag_hd2 (Nat.le_of_ble_eq_true rfl) (Nat.le_of_ble_eq_true rfl) (by decide) gw_683 nc_13_14 (ag_hd1 (Nat.le_of_ble_eq_true rfl) (Nat.le_of_ble_eq_true rfl) (by decide) gw_282 gw_574)), ?_⟩
  refine gc_astore_n (r := some x9) d_Lw_seal_15 (by decide) ?_
  refine ag_iconst d_Lw_seal_16 ?_
  exact ag_iret d_Lw_seal_17 rfl rfl ⟨rfl, rfl⟩
theorem v_Lw_tamper {l : Launch} {G : ag_G} {d N : Nat} {C : Nat × Nat} (hC : ag_cN G = C.1 ∧ ag_cS G = C.2) (htr : ∀ e : Env, l.admits e → e.platform.stackTraces = false) (hH : 7 ≤ d) {a o : Nat} {p1 p2 p3 p4 : Int32} {h h1 : ag_H} {fs : List Value} (ha : ag_at h (.ref a) = some (.inr (0, fs))) {x : Int32} {f : Nat → Int64} (hyp : fn_GC_tamper N C a p1 p2 p3 p4 h = some (.inl x, h1)) (ho : ag_at h1 (.ref o) = some (.inl (3, 1, .inr (.inl f)))) : ag_MetW gc_P l G m_Lw_tamper (d + 1) [.ref a, .int p1, .int p2, .int p3, .int p4, .ref o] h (fun v h' => v = some (.int 0) ∧ h' = ag_up h1 o (.inl (3, 1, .inr (.inl (vp_updL f 0 x.toInt64))))) := by
  refine ag_metW (by decide) (Nat.le_of_ble_eq_true rfl) ?_
  refine gc_aload (r := some o) d_Lw_tamper_0 rfl ?_
  refine ag_iconst d_Lw_tamper_2 ?_
  refine gc_aload_n (r := some a) d_Lw_tamper_3 rfl ?_
  refine ag_iload_n d_Lw_tamper_4 rfl ?_
  refine ag_iload_n d_Lw_tamper_5 rfl ?_
  refine ag_iload_n d_Lw_tamper_6 rfl ?_
  refine ag_iload d_Lw_tamper_7 rfl ?_
  refine ag_callv (as := [.int p1, .int p2, .int p3, .int p4]) d_Lw_tamper_9 ml_Lw_34 gw_750 rfl sl_GC_tamper ha (Nat.le_of_ble_eq_true rfl) (w_GC_tamper hC htr (d := d) hH hyp) (fun v h9 q => ?_)
  obtain ⟨rfl, rfl⟩ := q
  refine ag_i2l d_Lw_tamper_12 ?_
  refine ag_last (t := 3) d_Lw_tamper_13 rfl ho (md_in_ok (by decide)) ?_
  refine ag_goto d_Lw_tamper_14 rfl ?_
  refine ag_iconst d_Lw_tamper_25 ?_
  exact ag_iret d_Lw_tamper_26 rfl rfl ⟨rfl, rfl⟩
theorem u_Lw_tamper_14 {l : Launch} {G : ag_G} {d N : Nat} {C : Nat × Nat} (hC : ag_cN G = C.1 ∧ ag_cS G = C.2) (htr : ∀ e : Env, l.admits e → e.platform.stackTraces = false) (hH : 7 ≤ d) {a o : Nat} {p1 p2 p3 p4 : Int32} {h h1 : ag_H} {fs : List Value} (ha : ag_at h (.ref a) = some (.inr (0, fs))) {x : Nat} {fx : List Value} (hyp : fn_GC_tamper N C a p1 p2 p3 p4 h = some (.inr x, h1)) (hx : ag_at h1 (.ref x) = some (.inr (14, fx))) : ag_MetW gc_P l G m_Lw_tamper (d + 1) [.ref a, .int p1, .int p2, .int p3, .int p4, .ref o] h (fun v h' => v = some (.int 1) ∧ h' = h1) := by
  refine ag_metW (by decide) (Nat.le_of_ble_eq_true rfl) ?_
  refine gc_aload (r := some o) d_Lw_tamper_0 rfl ?_
  refine ag_iconst d_Lw_tamper_2 ?_
  refine gc_aload_n (r := some a) d_Lw_tamper_3 rfl ?_
  refine ag_iload_n d_Lw_tamper_4 rfl ?_
  refine ag_iload_n d_Lw_tamper_5 rfl ?_
  refine ag_iload_n d_Lw_tamper_6 rfl ?_
  refine ag_iload d_Lw_tamper_7 rfl ?_
  refine ag_callvT (as := [.int p1, .int p2, .int p3, .int p4]) d_Lw_tamper_9 gw_749 ml_Lw_34 gw_750 rfl sl_GC_tamper ha (Nat.le_of_ble_eq_true rfl) (t_GC_tamper hC htr (d := d) hH hyp) (fun x9 h9 q => ?_)
  obtain ⟨rfl, rfl⟩ := q
  refine ⟨14, _, _, 17, hx, rfl, (ag_hd1 (Nat.le_of_ble_eq_true rfl) (Nat.le_of_ble_eq_true rfl) (by decide) gw_683 gw_694), ?_⟩
  refine gc_astore (r := some x9) d_Lw_tamper_17 (by decide) ?_
  refine ag_iconst d_Lw_tamper_19 ?_
  exact ag_iret d_Lw_tamper_20 rfl rfl ⟨rfl, rfl⟩
theorem u_Lw_tamper_13 {l : Launch} {G : ag_G} {d N : Nat} {C : Nat × Nat} (hC : ag_cN G = C.1 ∧ ag_cS G = C.2) (htr : ∀ e : Env, l.admits e → e.platform.stackTraces = false) (hH : 7 ≤ d) {a o : Nat} {p1 p2 p3 p4 : Int32} {h h1 : ag_H} {fs : List Value} (ha : ag_at h (.ref a) = some (.inr (0, fs))) {x : Nat} {fx : List Value} (hyp : fn_GC_tamper N C a p1 p2 p3 p4 h = some (.inr x, h1)) (hx : ag_at h1 (.ref x) = some (.inr (13, fx))) : ag_MetW gc_P l G m_Lw_tamper (d + 1) [.ref a, .int p1, .int p2, .int p3, .int p4, .ref o] h (fun v h' => v = some (.int 2) ∧ h' = h1) := by
  refine ag_metW (by decide) (Nat.le_of_ble_eq_true rfl) ?_
  refine gc_aload (r := some o) d_Lw_tamper_0 rfl ?_
  refine ag_iconst d_Lw_tamper_2 ?_
  refine gc_aload_n (r := some a) d_Lw_tamper_3 rfl ?_
  refine ag_iload_n d_Lw_tamper_4 rfl ?_
  refine ag_iload_n d_Lw_tamper_5 rfl ?_
  refine ag_iload_n d_Lw_tamper_6 rfl ?_
  refine ag_iload d_Lw_tamper_7 rfl ?_
  refine ag_callvT (as := [.int p1, .int p2, .int p3, .int p4]) d_Lw_tamper_9 gw_749 ml_Lw_34 gw_750 rfl sl_GC_tamper ha (Nat.le_of_ble_eq_true rfl) (t_GC_tamper hC htr (d := d) hH hyp) (fun x9 h9 q => ?_)
  obtain ⟨rfl, rfl⟩ := q
  refine ⟨13, _, _, 21, hx, rfl, (ag_hd2 (Nat.le_of_ble_eq_true rfl) (Nat.le_of_ble_eq_true rfl) (by decide) gw_683 nc_13_14 (ag_hd1 (Nat.le_of_ble_eq_true rfl) (Nat.le_of_ble_eq_true rfl) (by decide) gw_282 gw_574)), ?_⟩
  refine gc_astore (r := some x9) d_Lw_tamper_21 (by decide) ?_
  refine ag_iconst d_Lw_tamper_23 ?_
  exact ag_iret d_Lw_tamper_24 rfl rfl ⟨rfl, rfl⟩
theorem v_Lw_authorize {l : Launch} {G : ag_G} {d N : Nat} {C : Nat × Nat} (hC : ag_cN G = C.1 ∧ ag_cS G = C.2) (htr : ∀ e : Env, l.admits e → e.platform.stackTraces = false) (hH : 19 ≤ d) {a o : Nat} {p1 p2 : Int32} {h h1 : ag_H} {fs : List Value} (ha : ag_at h (.ref a) = some (.inr (0, fs))) {x : Int32} {f : Nat → Int64} (hyp : fn_GC_authorize N C a p1 p2 h = some (.inl x, h1)) (ho : ag_at h1 (.ref o) = some (.inl (3, 1, .inr (.inl f)))) : ag_MetW gc_P l G m_Lw_authorize (d + 1) [.ref a, .int p1, .int p2, .ref o] h (fun v h' => v = some (.int 0) ∧ h' = ag_up h1 o (.inl (3, 1, .inr (.inl (vp_updL f 0 x.toInt64))))) := by
  refine ag_metW (by decide) (Nat.le_of_ble_eq_true rfl) ?_
  refine gc_aload_n (r := some o) d_Lw_authorize_0 rfl ?_
  refine ag_iconst d_Lw_authorize_1 ?_
  refine gc_aload_n (r := some a) d_Lw_authorize_2 rfl ?_
  refine ag_iload_n d_Lw_authorize_3 rfl ?_
  refine ag_iload_n d_Lw_authorize_4 rfl ?_
  refine ag_callv (as := [.int p1, .int p2]) d_Lw_authorize_5 ml_Lw_38 gw_805 rfl sl_GC_authorize ha (Nat.le_of_ble_eq_true rfl) (w_GC_authorize hC htr (d := d) hH hyp) (fun v h9 q => ?_)
  obtain ⟨rfl, rfl⟩ := q
  refine ag_i2l d_Lw_authorize_8 ?_
  refine ag_last (t := 3) d_Lw_authorize_9 rfl ho (md_in_ok (by decide)) ?_
  refine ag_goto d_Lw_authorize_10 rfl ?_
  refine ag_iconst d_Lw_authorize_21 ?_
  exact ag_iret d_Lw_authorize_22 rfl rfl ⟨rfl, rfl⟩
theorem u_Lw_authorize_14 {l : Launch} {G : ag_G} {d N : Nat} {C : Nat × Nat} (hC : ag_cN G = C.1 ∧ ag_cS G = C.2) (htr : ∀ e : Env, l.admits e → e.platform.stackTraces = false) (hH : 19 ≤ d) {a o : Nat} {p1 p2 : Int32} {h h1 : ag_H} {fs : List Value} (ha : ag_at h (.ref a) = some (.inr (0, fs))) {x : Nat} {fx : List Value} (hyp : fn_GC_authorize N C a p1 p2 h = some (.inr x, h1)) (hx : ag_at h1 (.ref x) = some (.inr (14, fx))) : ag_MetW gc_P l G m_Lw_authorize (d + 1) [.ref a, .int p1, .int p2, .ref o] h (fun v h' => v = some (.int 1) ∧ h' = h1) := by
  refine ag_metW (by decide) (Nat.le_of_ble_eq_true rfl) ?_
  refine gc_aload_n (r := some o) d_Lw_authorize_0 rfl ?_
  refine ag_iconst d_Lw_authorize_1 ?_
  refine gc_aload_n (r := some a) d_Lw_authorize_2 rfl ?_
  refine ag_iload_n d_Lw_authorize_3 rfl ?_
  refine ag_iload_n d_Lw_authorize_4 rfl ?_
  refine ag_callvT (as := [.int p1, .int p2]) d_Lw_authorize_5 gw_804 ml_Lw_38 gw_805 rfl sl_GC_authorize ha (Nat.le_of_ble_eq_true rfl) (t_GC_authorize hC htr (d := d) hH hyp) (fun x9 h9 q => ?_)
  obtain ⟨rfl, rfl⟩ := q
  refine ⟨14, _, _, 13, hx, rfl, (ag_hd1 (Nat.le_of_ble_eq_true rfl) (Nat.le_of_ble_eq_true rfl) (by decide) gw_683 gw_694), ?_⟩
  refine gc_astore (r := some x9) d_Lw_authorize_13 (by decide) ?_
  refine ag_iconst d_Lw_authorize_15 ?_
  exact ag_iret d_Lw_authorize_16 rfl rfl ⟨rfl, rfl⟩
theorem u_Lw_authorize_12 {l : Launch} {G : ag_G} {d N : Nat} {C : Nat × Nat} (hC : ag_cN G = C.1 ∧ ag_cS G = C.2) (htr : ∀ e : Env, l.admits e → e.platform.stackTraces = false) (hH : 19 ≤ d) {a o : Nat} {p1 p2 : Int32} {h h1 : ag_H} {fs : List Value} (ha : ag_at h (.ref a) = some (.inr (0, fs))) {x : Nat} {fx : List Value} (hyp : fn_GC_authorize N C a p1 p2 h = some (.inr x, h1)) (hx : ag_at h1 (.ref x) = some (.inr (12, fx))) : ag_MetW gc_P l G m_Lw_authorize (d + 1) [.ref a, .int p1, .int p2, .ref o] h (fun v h' => v = some (.int 2) ∧ h' = h1) := by
  refine ag_metW (by decide) (Nat.le_of_ble_eq_true rfl) ?_
  refine gc_aload_n (r := some o) d_Lw_authorize_0 rfl ?_
  refine ag_iconst d_Lw_authorize_1 ?_
  refine gc_aload_n (r := some a) d_Lw_authorize_2 rfl ?_
  refine ag_iload_n d_Lw_authorize_3 rfl ?_
  refine ag_iload_n d_Lw_authorize_4 rfl ?_
  refine ag_callvT (as := [.int p1, .int p2]) d_Lw_authorize_5 gw_804 ml_Lw_38 gw_805 rfl sl_GC_authorize ha (Nat.le_of_ble_eq_true rfl) (t_GC_authorize hC htr (d := d) hH hyp) (fun x9 h9 q => ?_)
  obtain ⟨rfl, rfl⟩ := q
  refine ⟨12, _, _, 17, hx, rfl, (ag_hd2 (Nat.le_of_ble_eq_true rfl) (Nat.le_of_ble_eq_true rfl) (by decide) gw_683 nc_12_14 (ag_hd1 (Nat.le_of_ble_eq_true rfl) (Nat.le_of_ble_eq_true rfl) (by decide) gw_280 gw_495)), ?_⟩
  refine gc_astore (r := some x9) d_Lw_authorize_17 (by decide) ?_
  refine ag_iconst d_Lw_authorize_19 ?_
  exact ag_iret d_Lw_authorize_20 rfl rfl ⟨rfl, rfl⟩
theorem v_Lw_fact {l : Launch} {G : ag_G} {d N : Nat} {C : Nat × Nat} (hC : ag_cN G = C.1 ∧ ag_cS G = C.2) (htr : ∀ e : Env, l.admits e → e.platform.stackTraces = false) (hH : 0 ≤ d) {a o : Nat} {p1 p2 : Int32} {h h1 : ag_H} {fs : List Value} (ha : ag_at h (.ref a) = some (.inr (0, fs))) {x : Int32} {f : Nat → Int64} (hyp : fn_GC_fact N C a p1 p2 h = some (.inl x, h1)) (ho : ag_at h1 (.ref o) = some (.inl (3, 1, .inr (.inl f)))) : ag_MetW gc_P l G m_Lw_fact (d + 1) [.ref a, .int p1, .int p2, .ref o] h (fun v h' => v = some (.int 0) ∧ h' = ag_up h1 o (.inl (3, 1, .inr (.inl (vp_updL f 0 x.toInt64))))) := by
  refine ag_metW (by decide) (Nat.le_of_ble_eq_true rfl) ?_
  refine gc_aload_n (r := some o) d_Lw_fact_0 rfl ?_
  refine ag_iconst d_Lw_fact_1 ?_
  refine gc_aload_n (r := some a) d_Lw_fact_2 rfl ?_
  refine ag_iload_n d_Lw_fact_3 rfl ?_
  refine ag_iload_n d_Lw_fact_4 rfl ?_
  refine ag_callv (as := [.int p1, .int p2]) d_Lw_fact_5 ml_Lw_42 gw_917 rfl sl_GC_fact ha (Nat.le_of_ble_eq_true rfl) (w_GC_fact hC htr (d := d) hH hyp) (fun v h9 q => ?_)
  obtain ⟨rfl, rfl⟩ := q
  refine ag_i2l d_Lw_fact_8 ?_
  refine ag_last (t := 3) d_Lw_fact_9 rfl ho (md_in_ok (by decide)) ?_
  refine ag_goto d_Lw_fact_10 rfl ?_
  refine ag_iconst d_Lw_fact_17 ?_
  exact ag_iret d_Lw_fact_18 rfl rfl ⟨rfl, rfl⟩
theorem u_Lw_fact_14 {l : Launch} {G : ag_G} {d N : Nat} {C : Nat × Nat} (hC : ag_cN G = C.1 ∧ ag_cS G = C.2) (htr : ∀ e : Env, l.admits e → e.platform.stackTraces = false) (hH : 0 ≤ d) {a o : Nat} {p1 p2 : Int32} {h h1 : ag_H} {fs : List Value} (ha : ag_at h (.ref a) = some (.inr (0, fs))) {x : Nat} {fx : List Value} (hyp : fn_GC_fact N C a p1 p2 h = some (.inr x, h1)) (hx : ag_at h1 (.ref x) = some (.inr (14, fx))) : ag_MetW gc_P l G m_Lw_fact (d + 1) [.ref a, .int p1, .int p2, .ref o] h (fun v h' => v = some (.int 1) ∧ h' = h1) := by
  refine ag_metW (by decide) (Nat.le_of_ble_eq_true rfl) ?_
  refine gc_aload_n (r := some o) d_Lw_fact_0 rfl ?_
  refine ag_iconst d_Lw_fact_1 ?_
  refine gc_aload_n (r := some a) d_Lw_fact_2 rfl ?_
  refine ag_iload_n d_Lw_fact_3 rfl ?_
  refine ag_iload_n d_Lw_fact_4 rfl ?_
  refine ag_callvT (as := [.int p1, .int p2]) d_Lw_fact_5 gw_916 ml_Lw_42 gw_917 rfl sl_GC_fact ha (Nat.le_of_ble_eq_true rfl) (t_GC_fact hC htr (d := d) hH hyp) (fun x9 h9 q => ?_)
  obtain ⟨rfl, rfl⟩ := q
  refine ⟨14, _, _, 13, hx, rfl, (ag_hd1 (Nat.le_of_ble_eq_true rfl) (Nat.le_of_ble_eq_true rfl) (by decide) gw_683 gw_694), ?_⟩
  refine gc_astore (r := some x9) d_Lw_fact_13 (by decide) ?_
  refine ag_iconst d_Lw_fact_15 ?_
  exact ag_iret d_Lw_fact_16 rfl rfl ⟨rfl, rfl⟩
theorem v_Lw_token {l : Launch} {G : ag_G} {d N : Nat} {C : Nat × Nat} (hC : ag_cN G = C.1 ∧ ag_cS G = C.2) (htr : ∀ e : Env, l.admits e → e.platform.stackTraces = false) (hH : 3 ≤ d) {a o : Nat} {p1 p2 : Int32} {h h1 : ag_H} {fs : List Value} (ha : ag_at h (.ref a) = some (.inr (0, fs))) {x : Int32} {f : Nat → Int64} (hyp : fn_GC_token N C a p1 p2 h = some (.inl x, h1)) (ho : ag_at h1 (.ref o) = some (.inl (3, 1, .inr (.inl f)))) : ag_MetW gc_P l G m_Lw_token (d + 1) [.ref a, .int p1, .int p2, .ref o] h (fun v h' => v = some (.int 0) ∧ h' = ag_up h1 o (.inl (3, 1, .inr (.inl (vp_updL f 0 x.toInt64))))) := by
  refine ag_metW (by decide) (Nat.le_of_ble_eq_true rfl) ?_
  refine gc_aload_n (r := some o) d_Lw_token_0 rfl ?_
  refine ag_iconst d_Lw_token_1 ?_
  refine gc_aload_n (r := some a) d_Lw_token_2 rfl ?_
  refine ag_iload_n d_Lw_token_3 rfl ?_
  refine ag_iload_n d_Lw_token_4 rfl ?_
  refine ag_callv (as := [.int p1, .int p2]) d_Lw_token_5 ml_Lw_45 gw_924 rfl sl_GC_token ha (Nat.le_of_ble_eq_true rfl) (w_GC_token hC htr (d := d) hH hyp) (fun v h9 q => ?_)
  obtain ⟨rfl, rfl⟩ := q
  refine ag_i2l d_Lw_token_8 ?_
  refine ag_last (t := 3) d_Lw_token_9 rfl ho (md_in_ok (by decide)) ?_
  refine ag_goto d_Lw_token_10 rfl ?_
  refine ag_iconst d_Lw_token_17 ?_
  exact ag_iret d_Lw_token_18 rfl rfl ⟨rfl, rfl⟩
theorem u_Lw_token_14 {l : Launch} {G : ag_G} {d N : Nat} {C : Nat × Nat} (hC : ag_cN G = C.1 ∧ ag_cS G = C.2) (htr : ∀ e : Env, l.admits e → e.platform.stackTraces = false) (hH : 3 ≤ d) {a o : Nat} {p1 p2 : Int32} {h h1 : ag_H} {fs : List Value} (ha : ag_at h (.ref a) = some (.inr (0, fs))) {x : Nat} {fx : List Value} (hyp : fn_GC_token N C a p1 p2 h = some (.inr x, h1)) (hx : ag_at h1 (.ref x) = some (.inr (14, fx))) : ag_MetW gc_P l G m_Lw_token (d + 1) [.ref a, .int p1, .int p2, .ref o] h (fun v h' => v = some (.int 1) ∧ h' = h1) := by
  refine ag_metW (by decide) (Nat.le_of_ble_eq_true rfl) ?_
  refine gc_aload_n (r := some o) d_Lw_token_0 rfl ?_
  refine ag_iconst d_Lw_token_1 ?_
  refine gc_aload_n (r := some a) d_Lw_token_2 rfl ?_
  refine ag_iload_n d_Lw_token_3 rfl ?_
  refine ag_iload_n d_Lw_token_4 rfl ?_
  refine ag_callvT (as := [.int p1, .int p2]) d_Lw_token_5 gw_923 ml_Lw_45 gw_924 rfl sl_GC_token ha (Nat.le_of_ble_eq_true rfl) (t_GC_token hC htr (d := d) hH hyp) (fun x9 h9 q => ?_)
  obtain ⟨rfl, rfl⟩ := q
  refine ⟨14, _, _, 13, hx, rfl, (ag_hd1 (Nat.le_of_ble_eq_true rfl) (Nat.le_of_ble_eq_true rfl) (by decide) gw_683 gw_694), ?_⟩
  refine gc_astore (r := some x9) d_Lw_token_13 (by decide) ?_
  refine ag_iconst d_Lw_token_15 ?_
  exact ag_iret d_Lw_token_16 rfl rfl ⟨rfl, rfl⟩
