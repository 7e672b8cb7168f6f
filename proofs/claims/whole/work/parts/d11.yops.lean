/-! ### What is done to a token that is being made -/
section YOP
variable {N : Nat} {C : Nat × Nat} {ow : Nat → Nat} {g : ag_H} {t : Nat} {T : w_T}
theorem yT_at (h : yT ow g t T) : ∃ l, g.2.2 t = .inr (8, [.ref l, .int (j_b T.2.1), .int T.2.2.1, .int T.2.2.2]) ∧ ag_at g (.ref t) = some (.inr (8, [.ref l, .int (j_b T.2.1), .int T.2.2.1, .int T.2.2.2])) ∧ al_rep (own ow 6) (lk_rep (own ow 0) g) g l T.1 := by
  obtain ⟨h1, h2, h3, l, h4, h5⟩ := h
  exact ⟨l, h4, pu_at h2 h3 h4, h5⟩
theorem ow_mono (k : Nat) : ∀ j q, own ow j q → q < g.1 → own (ow_nx ow g.1 k) j q := fun j q hq hl => by show ow_nx ow g.1 k q = j; rw [ow_lt hl]; exact hq
theorem y_init (hg : 75 ≤ g.1) (hC1 : g.1 + 2 ≤ C.1) (hC2 : g.2.1 + 7 ≤ C.2) : ∃ g', fn_Tk_init N C g.1 (ag_nw g 4 (.inr (8, [.null, .int 0, .int 0, .int 0]))) = some (0, g') ∧ c6 ow (ow_nx ow g.1 6) g g' 2 7 ∧ yT (ow_nx ow g.1 6) g' g.1 ([], false, 0, 0) := by
  have e1 : ag_at (ag_nw g 4 (.inr (8, [.null, .int 0, .int 0, .int 0]))) (.ref g.1) = some (.inr (8, [.null, .int 0, .int 0, .int 0])) := pu_nw_new (by omega)
  have e2 : ag_at (ag_nw (ag_nw g 4 (.inr (8, [.null, .int 0, .int 0, .int 0]))) 3 (.inr (11, [.ref 1, .int 0, .int (Int32.ofInt 0)]))) (.ref g.1) = some (.inr (8, [.null, .int 0, .int 0, .int 0])) := pu_nw_old e1
  refine ⟨ag_up (ag_nw (ag_nw g 4 (.inr (8, [.null, .int 0, .int 0, .int 0]))) 3 (.inr (11, [.ref 1, .int 0, .int (Int32.ofInt 0)]))) g.1 (.inr (8, [.ref (g.1 + 1), .int 0, .int 0, .int 0])), ?_, ⟨hg, show g.1 ≤ g.1 + 1 + 1 by omega, show g.1 + 1 + 1 ≤ g.1 + 2 by omega, show g.2.1 ≤ g.2.1 + 4 + 3 by omega, show g.2.1 + 4 + 3 ≤ g.2.1 + 7 by omega, fun q hq => ow_lt hq, fun q hq _ => ?_⟩, ?_⟩
  · unfold fn_Tk_init fn_Tk_init_0
    rw [if_pos ⟨show g.1 + 1 + 1 ≤ C.1 by omega, show g.2.1 + 4 + 3 ≤ C.2 by omega⟩, al_init (g := ag_nw g 4 (.inr (8, [.null, .int 0, .int 0, .int 0]))) (show 2 ≤ g.1 + 1 by omega), Option.bind_some]
    dsimp only
    rw [pu_pf e2 (Nat.le_of_ble_eq_true rfl) rfl rfl, Option.bind_some]
    rfl
  · exact (if_neg (by omega)).trans ((if_neg (show ¬ q = g.1 + 1 by omega)).trans (if_neg (by omega)))
  · refine ⟨ow_ge (Nat.lt_irrefl _), by omega, show g.1 < g.1 + 1 + 1 by omega, g.1 + 1, if_pos rfl, ow_ge (by omega), by omega, show g.1 + 1 < g.1 + 1 + 1 by omega, Int32.ofInt 0, Or.inl ⟨rfl, ?_⟩⟩
    exact (if_neg (by omega)).trans (if_pos rfl)
theorem y_add (hg : 75 ≤ g.1) (h : yT ow g t T) {l b : Nat} {x : w_K} (hl : g.2.2 t = .inr (8, [.ref l, .int (j_b T.2.1), .int T.2.2.1, .int T.2.2.2])) (hT : T.1.length < 10) (hx : lk_rep (own ow 0) g b x) (hC1 : g.1 + 1 ≤ C.1) (hC2 : g.2.1 + 10 ≤ C.2) : ∃ g', fn_AL_add N C l (some b) g = some (Int32.ofInt 1, g') ∧ c6 ow (ow_nx ow g.1 6) g g' 1 10 ∧ yT (ow_nx ow g.1 6) g' t (T.1 ++ [x], T.2) := by
  have h0 := h
  obtain ⟨a1, a2, a3, l', a4, a5⟩ := h
  rw [hl] at a4
  cases a4
  obtain ⟨ci, fs, hb, hc⟩ := lk_cls hx
  obtain ⟨g', k1, k2, k3, k4, k5, k6, k7, k8⟩ := al_push (N := N) (C := C) (al_rep_mono (ow_mono 6 6) (fun _ _ _ h => lk_mono (ow_mono 6 0) h) a5) hT (lk_mono (ow_mono 6 0) hx) hb hc hC1 hC2 (ow_ge (Nat.lt_irrefl _))
  obtain ⟨y1, y2⟩ := yT_ls (g' := g') (xs := T.1 ++ [x]) (k := 6) (a := 1) (b := 10) hg h0 hl (Or.inl rfl) ⟨k3, k4, k5, k6⟩ (fun q hq => k7 q hq) (k8 t a3 (fun y e => by rw [hl] at e; cases e) (fun y e => by rw [hl] at e; cases e)) k2
  exact ⟨g', k1, y2, y1⟩
theorem y_set (hg : 75 ≤ g.1) (h : yT ow g t T) {l b i : Nat} {x : w_K} (hl : g.2.2 t = .inr (8, [.ref l, .int (j_b T.2.1), .int T.2.2.1, .int T.2.2.2])) (hi : i < T.1.length) (hx : lk_rep (own ow 0) g b x) : ∃ o g', fn_AL_set N C l (Int32.ofNat i) (some b) g = some (o, g') ∧ c6 ow (ow_nx ow g.1 6) g g' 0 0 ∧ yT (ow_nx ow g.1 6) g' t (T.1.set i x, T.2) := by
  have h0 := h
  obtain ⟨a1, a2, a3, l', a4, a5⟩ := h
  rw [hl] at a4
  cases a4
  obtain ⟨ci, fs, hb, hc⟩ := lk_cls hx
  obtain ⟨o, g', k1, k2, k3, k4, k5, k6⟩ := al_set (N := N) (C := C) (al_rep_mono (ow_mono 6 6) (fun _ _ _ h => lk_mono (ow_mono 6 0) h) a5) hi (lk_mono (ow_mono 6 0) hx) hb hc
  obtain ⟨y1, y2⟩ := yT_ls (g' := g') (xs := T.1.set i x) (k := 6) (a := 0) (b := 0) hg h0 hl (Or.inl rfl) ⟨by omega, by omega, by omega, by omega⟩ (fun q hq => k5 q hq) (k6 t (fun y e => by rw [hl] at e; cases e)) k2
  exact ⟨o, g', k1, y2, y1⟩
theorem y_rml (hg : 75 ≤ g.1) (h : yT ow g t T) {l n : Nat} (hl : g.2.2 t = .inr (8, [.ref l, .int (j_b T.2.1), .int T.2.2.1, .int T.2.2.2])) (hn : T.1.length = n + 1) : ∃ o g', fn_AL_remove N C l (Int32.ofNat n) g = some (o, g') ∧ c6 ow (ow_nx ow g.1 6) g g' 0 0 ∧ yT (ow_nx ow g.1 6) g' t (T.1.take n, T.2) := by
  have h0 := h
  obtain ⟨a1, a2, a3, l', a4, a5⟩ := h
  rw [hl] at a4
  cases a4
  obtain ⟨o, g', k1, k2, k3, k4, k5, k6⟩ := al_rml (N := N) (C := C) (al_rep_mono (ow_mono 6 6) (fun _ _ _ h => lk_mono (ow_mono 6 0) h) a5) hn
  obtain ⟨y1, y2⟩ := yT_ls (g' := g') (xs := T.1.take n) (k := 6) (a := 0) (b := 0) hg h0 hl (Or.inl rfl) ⟨by omega, by omega, by omega, by omega⟩ (fun q hq => k5 q hq) (k6 t (fun y e => by rw [hl] at e; cases e) (fun y e => by rw [hl] at e; cases e)) k2
  exact ⟨o, g', k1, y2, y1⟩
/-- a new link -/
theorem y_lk (hg : 75 ≤ g.1) (x : w_K) : fn_Lk_init N C g.1 x.1 x.2.1 x.2.2.1 x.2.2.2.1 x.2.2.2.2 (ag_nw g 5 (.inr (9, [.int 0, .int 0, .int 0, .int 0, .int 0]))) = some (0, ag_nw g 5 (.inr (9, [.int x.1, .int x.2.1, .int x.2.2.1, .int x.2.2.2.1, .int x.2.2.2.2]))) ∧ lk_rep (own (ow_nx ow g.1 0) 0) (ag_nw g 5 (.inr (9, [.int x.1, .int x.2.1, .int x.2.2.1, .int x.2.2.2.1, .int x.2.2.2.2]))) g.1 x := by
  have en : ∀ fs, ag_at (ag_nw g 5 (.inr (9, fs))) (.ref g.1) = some (.inr (9, fs)) := fun fs => pu_nw_new (by omega)
  refine ⟨?_, ow_ge (Nat.lt_irrefl _), by omega, show g.1 < g.1 + 1 by omega, if_pos rfl⟩
  unfold fn_Lk_init fn_Lk_init_0
  rw [pu_pf (en _) (Nat.le_of_ble_eq_true rfl) rfl rfl, Option.bind_some, pu_up_nw, pu_pf (en _) (Nat.le_of_ble_eq_true rfl) rfl rfl, Option.bind_some, pu_up_nw, pu_pf (en _) (Nat.le_of_ble_eq_true rfl) rfl rfl, Option.bind_some, pu_up_nw, pu_pf (en _) (Nat.le_of_ble_eq_true rfl) rfl rfl, Option.bind_some, pu_up_nw, pu_pf (en _) (Nat.le_of_ble_eq_true rfl) rfl rfl, Option.bind_some, pu_up_nw]
  rfl
/-- an element of the token's list -/
theorem y_get (h : yT ow g t T) {l i : Nat} {x : w_K} (hl : g.2.2 t = .inr (8, [.ref l, .int (j_b T.2.1), .int T.2.2.1, .int T.2.2.2])) (hx : T.1[i]? = some x) : ∃ b, fn_AL_get N C l (Int32.ofNat i) g = some (some b, g) ∧ lk_rep (own ow 0) g b x ∧ ag_at g (.ref b) = some (.inr (9, [.int x.1, .int x.2.1, .int x.2.2.1, .int x.2.2.2.1, .int x.2.2.2.2])) := by
  obtain ⟨a1, a2, a3, l', a4, a5⟩ := h
  rw [hl] at a4
  cases a4
  obtain ⟨b, hb1, hb2⟩ := al_rep_get (N := N) (C := C) a5 hx
  exact ⟨b, hb1, hb2, pu_at hb2.2.1 hb2.2.2.1 hb2.2.2.2⟩
/-- a link is replaced by a new one -/
theorem y_new (hg : 75 ≤ g.1) (h : yT ow g t T) {l i : Nat} {y : w_K} (hl : g.2.2 t = .inr (8, [.ref l, .int (j_b T.2.1), .int T.2.2.1, .int T.2.2.2])) (hi : i < T.1.length) : ∃ o g' ow', (fn_AL_set N C l (Int32.ofNat i) (some g.1) (ag_nw g 5 (.inr (9, [.int y.1, .int y.2.1, .int y.2.2.1, .int y.2.2.2.1, .int y.2.2.2.2])))) = some (o, g') ∧ c6 ow ow' g g' 1 5 ∧ yT ow' g' t (T.1.set i y, T.2) := by
  have h1 := yT_nw 5 (.inr (9, [.int y.1, .int y.2.1, .int y.2.2.1, .int y.2.2.2.1, .int y.2.2.2.2])) 0 h
  have c1 := c6_nw (ow := ow) hg 5 (.inr (9, [.int y.1, .int y.2.1, .int y.2.2.1, .int y.2.2.2.1, .int y.2.2.2.2])) 0
  have hl1 : (ag_nw g 5 (.inr (9, [.int y.1, .int y.2.1, .int y.2.2.1, .int y.2.2.2.1, .int y.2.2.2.2]))).2.2 t = .inr (8, [.ref l, .int (j_b T.2.1), .int T.2.2.1, .int T.2.2.2]) := (if_neg (by have := h.2.2.1; omega)).trans hl
  have hg1 : 75 ≤ (ag_nw g 5 (.inr (9, [.int y.1, .int y.2.1, .int y.2.2.1, .int y.2.2.2.1, .int y.2.2.2.2]))).1 := show 75 ≤ g.1 + 1 by omega
  obtain ⟨o, g', k1, k2, k3⟩ := y_set (N := N) (C := C) hg1 h1 hl1 hi (y_lk (N := N) (C := C) (ow := ow) hg y).2
  exact ⟨o, g', _, k1, c6_tr c1 k2, k3⟩
theorem y_change (hg : 75 ≤ g.1) (h : yT ow g t T) {i : Nat} {x : w_K} (hx : T.1[i]? = some x) (b n : Int32) (hC1 : g.1 + 1 ≤ C.1) (hC2 : g.2.1 + 5 ≤ C.2) : ∃ g' ow', fn_Tk_changeLink N C t (Int32.ofNat i) b n g = some (0, g') ∧ c6 ow ow' g g' 1 5 ∧ yT ow' g' t (T.1.set i (b, n, x.2.2), T.2) := by
  obtain ⟨l, hl, ea, hr⟩ := yT_at h
  have hi := (List.getElem?_eq_some_iff.mp hx).1
  obtain ⟨a, ga, la, lat⟩ := y_get (N := N) (C := C) h hl hx
  obtain ⟨o, g', ow', k1, k2, k3⟩ := y_new (N := N) (C := C) (y := (b, n, x.2.2)) hg h hl hi
  refine ⟨g', ow', ?_, k2, k3⟩
  have lat1 : ∀ c, ag_at (ag_nw g 5 c) (.ref a) = _ := fun c => pu_nw_old lat
  unfold fn_Tk_changeLink fn_Tk_changeLink_0
  rw [pu_gr (k := 0) ea rfl, Option.bind_some, al_rep_rc hr, Option.bind_some, ga, Option.bind_some]
  dsimp only
  rw [if_pos (pu_ck lat), pu_gr (k := 0) ea rfl, Option.bind_some, if_pos ⟨hC1, hC2⟩, pu_gi (k := 2) (lat1 _) rfl, Option.bind_some, pu_gi (k := 3) (lat1 _) rfl, Option.bind_some, pu_gi (k := 4) (lat1 _) rfl, Option.bind_some, (y_lk (N := N) (C := C) (ow := ow) hg (b, n, x.2.2)).1, Option.bind_some]
  dsimp only
  have hr1 := al_rep_rc (al_rep_ext (g' := ag_nw g 5 (.inr (9, [.int b, .int n, .int x.2.2.1, .int x.2.2.2.1, .int x.2.2.2.2]))) (show g.1 ≤ g.1 + 1 by omega) (fun q _ hq => if_neg (by omega)) hr)
  rw [hr1, Option.bind_some, k1, Option.bind_some]
theorem y_sign (hg : 75 ≤ g.1) (h : yT ow g t T) {i : Nat} {x : w_K} (hx : T.1[i]? = some x) (hC1 : g.1 + 1 ≤ C.1) (hC2 : g.2.1 + 5 ≤ C.2) : ∃ g' ow', fn_Tk_signAnew N C t (Int32.ofNat i) g = some (0, g') ∧ c6 ow ow' g g' 1 5 ∧ yT ow' g' t (T.1.set i (x.1, x.2.1, T.2.2.1, x.1, x.2.1), T.2) := by
  obtain ⟨l, hl, ea, hr⟩ := yT_at h
  have hi := (List.getElem?_eq_some_iff.mp hx).1
  obtain ⟨a, ga, la, lat⟩ := y_get (N := N) (C := C) h hl hx
  obtain ⟨o, g', ow', k1, k2, k3⟩ := y_new (N := N) (C := C) (y := (x.1, x.2.1, T.2.2.1, x.1, x.2.1)) hg h hl hi
  refine ⟨g', ow', ?_, k2, k3⟩
  have lat1 : ∀ c, ag_at (ag_nw g 5 c) (.ref a) = _ := fun c => pu_nw_old lat
  have ea1 : ∀ c, ag_at (ag_nw g 5 c) (.ref t) = _ := fun c => pu_nw_old ea
  unfold fn_Tk_signAnew fn_Tk_signAnew_0
  rw [pu_gr (k := 0) ea rfl, Option.bind_some, al_rep_rc hr, Option.bind_some, ga, Option.bind_some]
  dsimp only
  rw [if_pos (pu_ck lat), pu_gr (k := 0) ea rfl, Option.bind_some, if_pos ⟨hC1, hC2⟩, pu_gi (k := 0) (lat1 _) rfl, Option.bind_some, pu_gi (k := 1) (lat1 _) rfl, Option.bind_some, pu_gi (k := 2) (ea1 _) rfl, Option.bind_some, Option.bind_some, Option.bind_some, (y_lk (N := N) (C := C) (ow := ow) hg (x.1, x.2.1, T.2.2.1, x.1, x.2.1)).1, Option.bind_some]
  dsimp only
  have hr1 := al_rep_rc (al_rep_ext (g' := ag_nw g 5 (.inr (9, [.int x.1, .int x.2.1, .int T.2.2.1, .int x.1, .int x.2.1]))) (show g.1 ≤ g.1 + 1 by omega) (fun q _ hq => if_neg (by omega)) hr)
  rw [hr1, Option.bind_some, k1, Option.bind_some]
end YOP
