/-! ### A list that is full grows -/
theorem n_shr1 : ∀ n : Fin 1000, Int32.ofNat n.val >>> (Int32.ofInt 1 &&& 31) = Int32.ofNat (n.val / 2) := by decide +kernel
theorem al_addg {N : Nat} {C : Nat × Nat} {g : ag_H} {a b ci : Nat} {md : Int32} {fs : List Value} {e n0 : Nat} {f : Nat → Option Nat} (ea : ag_at g (.ref a) = some (.inr (11, [.ref e, .int (Int32.ofNat n0), .int md]))) (ee : ag_at g (.ref e) = some (.inl (4, n0, .inr (.inr (.inr (.inr f)))))) (hn : 10 ≤ n0 ∧ n0 < 1000) (hel : ∀ i, i < n0 → ∀ b', f i = some b' → ∃ ci fs, ag_at g (.ref b') = some (.inr (ci, fs)) ∧ ci ≤ 10) (hb : ag_at g (.ref b) = some (.inr (ci, fs))) (hc : ci ≤ 10) (hC1 : g.1 + 1 ≤ C.1) (hC2 : g.2.1 + (n0 + n0 / 2) ≤ C.2) :
    ∃ g', fn_AL_add N C a (some b) g = some (Int32.ofInt 1, g') ∧ up2 g g' a (.inr (11, [.ref g.1, .int (Int32.ofNat (n0 + 1)), .int (md + Int32.ofInt 1)])) g.1 (.inl (4, n0 + n0 / 2, .inr (.inr (.inr (.inr (va_up (va_cpy f (fun _ => none) 0 0 n0) n0 (some b))))))) 1 (n0 + n0 / 2) := by
  obtain ⟨a2, a3, a4⟩ := pu_inv ea
  obtain ⟨b2, b3, b4⟩ := pu_inv hb
  have hab : b ≠ a := by
    rintro rfl
    rw [ea] at hb
    cases hb
    omega
  have hae : e ≠ a := by
    rintro rfl
    rw [ea] at ee
    cases ee
  unfold fn_AL_add fn_AL_add_0
  rw [pu_gi (k := 2) ea rfl, Option.bind_some, pu_pf ea (Nat.le_of_ble_eq_true rfl) rfl rfl, Option.bind_some]
  have e1 : ag_at (ag_up g a (.inr (11, [Value.ref e, Value.int (Int32.ofNat n0), Value.int md].set 2 (.int (md + Int32.ofInt 1))))) (.ref a) = some (.inr (11, [.ref e, .int (Int32.ofNat n0), .int (md + Int32.ofInt 1)])) := pu_up_eq _ ea
  have f1 : ag_at (ag_up g a (.inr (11, [Value.ref e, Value.int (Int32.ofNat n0), Value.int md].set 2 (.int (md + Int32.ofInt 1))))) (.ref b) = some (.inr (ci, fs)) := (pu_up_ne _ hab).trans hb
  have h1 : ag_at (ag_up g a (.inr (11, [Value.ref e, Value.int (Int32.ofNat n0), Value.int md].set 2 (.int (md + Int32.ofInt 1))))) (.ref e) = some (.inl (4, n0, .inr (.inr (.inr (.inr f))))) := (pu_up_ne _ hae).trans ee
  have hel1 : (List.range n0).all (fun i => ag_el (ag_up g a (.inr (11, [Value.ref e, Value.int (Int32.ofNat n0), Value.int md].set 2 (.int (md + Int32.ofInt 1))))) (f i)) = true := by
    refine List.all_eq_true.mpr fun i hi => ?_
    cases hf : f i with
    | none => rfl
    | some b' =>
      obtain ⟨ci', fs', k1, k2⟩ := hel i (List.mem_range.mp hi) b' hf
      have hb'a : b' ≠ a := by
        rintro rfl
        rw [ea] at k1
        cases k1
        omega
      unfold ag_el
      simp only [(pu_up_ne (h := g) (.inr (11, [Value.ref e, Value.int (Int32.ofNat n0), Value.int md].set 2 (.int (md + Int32.ofInt 1)))) hb'a).trans k1]
      simp [ag_cok, k2]
  have g1e : ∀ q, q ≠ a → (ag_up g a (.inr (11, [Value.ref e, Value.int (Int32.ofNat n0), Value.int md].set 2 (.int (md + Int32.ofInt 1))))).2.2 q = g.2.2 q := fun q hq => if_neg hq
  have g1n : (ag_up g a (.inr (11, [Value.ref e, Value.int (Int32.ofNat n0), Value.int md].set 2 (.int (md + Int32.ofInt 1))))).1 = g.1 := rfl
  have g1s : (ag_up g a (.inr (11, [Value.ref e, Value.int (Int32.ofNat n0), Value.int md].set 2 (.int (md + Int32.ofInt 1))))).2.1 = g.2.1 := rfl
  generalize ag_up g a (.inr (11, [Value.ref e, Value.int (Int32.ofNat n0), Value.int md].set 2 (.int (md + Int32.ofInt 1)))) = g1 at e1 f1 h1 hel1 g1e g1n g1s ⊢
  rw [pu_gr (k := 0) e1 rfl, Option.bind_some, pu_gi (k := 1) e1 rfl, Option.bind_some, pu_rc e1, Option.bind_some]
  unfold fn_AL_add2 fn_AL_add2_0
  rw [pu_le h1 (by decide), Option.bind_some, if_pos rfl, pu_rc e1, Option.bind_some]
  unfold fn_AL_grow fn_AL_grow_0
  rw [pu_gi (k := 1) e1 rfl, Option.bind_some, pu_rc e1, Option.bind_some]
  unfold fn_AL_grow2 fn_AL_grow2_0
  rw [pu_gr (k := 0) e1 rfl, Option.bind_some, pu_le h1 (by decide), Option.bind_some, if_pos (show (0 : Int32) < Int32.ofNat n0 from n_ltT (a := 0) (by omega) (by omega))]
  unfold fn_AL_grow2_20 fn_AS_newLength fn_AS_newLength_0
  have hs := n_shr1 ⟨n0, hn.2⟩
  simp only at hs
  have hm1 : Int32.ofNat n0 + Int32.ofInt 1 - Int32.ofNat n0 = Int32.ofNat 1 := by
    rw [n_1, n_add, n_sub (by omega)]
    congr 1
    omega
  rw [hs, hm1, if_pos (n_ltT (show 1 < n0 / 2 by omega) (by omega)), n_add, if_neg (show ¬ Int32.ofNat (n0 + n0 / 2) ≤ Int32.ofInt 0 from n_leF (b := 0) (by omega) (by omega)), if_neg (show ¬ (2147483639 : Int32) < Int32.ofNat (n0 + n0 / 2) from n_ltF (a := 2147483639) (by omega) (by omega)), Option.bind_some]
  dsimp only
  rw [pu_gr (k := 0) e1 rfl, Option.bind_some]
  have hco : fn_Ar_copyOf N C (some e) (Int32.ofNat (n0 + n0 / 2)) g1 = some (some g1.1, ag_nw g1 (n0 + n0 / 2) (.inl (4, n0 + n0 / 2, .inr (.inr (.inr (.inr (va_cpy f (fun _ => none) 0 0 n0))))))) := by
    unfold fn_Ar_copyOf
    have h1' : ag_at g1 (ag_rf (some e)) = some (.inl (4, n0, .inr (.inr (.inr (.inr f))))) := h1
    simp only [h1']
    rw [n_nat (by omega), if_pos ⟨trivial, ⟨n_nn (by omega), by omega, by omega, by omega⟩, by omega, hel1⟩]
  rw [show (Value.ref e) = ag_rf (some e) from rfl] at *
  rw [hco, Option.bind_some]
  have e2 : ag_at (ag_nw g1 (n0 + n0 / 2) (.inl (4, n0 + n0 / 2, .inr (.inr (.inr (.inr (va_cpy f (fun _ => none) 0 0 n0))))))) (.ref a) = _ := pu_nw_old e1
  rw [pu_pf e2 (Nat.le_of_ble_eq_true rfl) rfl rfl, Option.bind_some, Option.bind_some, Option.bind_some]
  unfold fn_AL_add2_11
  have hna : g1.1 ≠ a := by omega
  have hnb : b ≠ g1.1 := by omega
  dsimp only
  have e3 : ag_at (ag_up (ag_nw g1 (n0 + n0 / 2) (.inl (4, n0 + n0 / 2, .inr (.inr (.inr (.inr (va_cpy f (fun _ => none) 0 0 n0))))))) a (.inr (11, [ag_rf (some e), Value.int (Int32.ofNat n0), Value.int (md + Int32.ofInt 1)].set 0 (ag_rf (some g1.1))))) (.ref g1.1) = some (.inl (4, n0 + n0 / 2, .inr (.inr (.inr (.inr (va_cpy f (fun _ => none) 0 0 n0)))))) := (pu_up_ne _ hna).trans (pu_nw_new (by omega))
  have f3 : ag_at (ag_up (ag_nw g1 (n0 + n0 / 2) (.inl (4, n0 + n0 / 2, .inr (.inr (.inr (.inr (va_cpy f (fun _ => none) 0 0 n0))))))) a (.inr (11, [ag_rf (some e), Value.int (Int32.ofNat n0), Value.int (md + Int32.ofInt 1)].set 0 (ag_rf (some g1.1))))) (.ref b) = some (.inr (ci, fs)) := (pu_up_ne _ hab).trans (pu_nw_old f1)
  have a3' : ag_at (ag_up (ag_nw g1 (n0 + n0 / 2) (.inl (4, n0 + n0 / 2, .inr (.inr (.inr (.inr (va_cpy f (fun _ => none) 0 0 n0))))))) a (.inr (11, [ag_rf (some e), Value.int (Int32.ofNat n0), Value.int (md + Int32.ofInt 1)].set 0 (ag_rf (some g1.1))))) (.ref a) = some (.inr (11, [.ref g1.1, .int (Int32.ofNat n0), .int (md + Int32.ofInt 1)])) := pu_up_eq _ e2
  have g3e : ∀ q, q ≠ a → q ≠ g1.1 → (ag_up (ag_nw g1 (n0 + n0 / 2) (.inl (4, n0 + n0 / 2, .inr (.inr (.inr (.inr (va_cpy f (fun _ => none) 0 0 n0))))))) a (.inr (11, [ag_rf (some e), Value.int (Int32.ofNat n0), Value.int (md + Int32.ofInt 1)].set 0 (ag_rf (some g1.1))))).2.2 q = g.2.2 q := fun q hq hq2 => (if_neg hq).trans ((if_neg hq2).trans (g1e q hq))
  have g3n : (ag_up (ag_nw g1 (n0 + n0 / 2) (.inl (4, n0 + n0 / 2, .inr (.inr (.inr (.inr (va_cpy f (fun _ => none) 0 0 n0))))))) a (.inr (11, [ag_rf (some e), Value.int (Int32.ofNat n0), Value.int (md + Int32.ofInt 1)].set 0 (ag_rf (some g1.1))))).1 = g1.1 + 1 := rfl
  have g3s : (ag_up (ag_nw g1 (n0 + n0 / 2) (.inl (4, n0 + n0 / 2, .inr (.inr (.inr (.inr (va_cpy f (fun _ => none) 0 0 n0))))))) a (.inr (11, [ag_rf (some e), Value.int (Int32.ofNat n0), Value.int (md + Int32.ofInt 1)].set 0 (ag_rf (some g1.1))))).2.1 = g1.2.1 + (n0 + n0 / 2) := rfl
  generalize ag_up (ag_nw g1 (n0 + n0 / 2) (.inl (4, n0 + n0 / 2, .inr (.inr (.inr (.inr (va_cpy f (fun _ => none) 0 0 n0))))))) a (.inr (11, [ag_rf (some e), Value.int (Int32.ofNat n0), Value.int (md + Int32.ofInt 1)].set 0 (ag_rf (some g1.1)))) = g3 at e3 f3 a3' g3e g3n g3s ⊢
  rw [pu_as e3 (show md_in (Int32.ofNat n0) (n0 + n0 / 2) = true by rw [n_in (by omega)]; omega) f3 hc, Option.bind_some, n_nat (by omega)]
  have a4' := (pu_up_ne (.inl (4, n0 + n0 / 2, .inr (.inr (.inr (.inr (va_up (va_cpy f (fun _ => none) 0 0 n0) n0 (some b))))))) (Ne.symm hna)).trans a3'
  rw [pu_pf a4' (Nat.le_of_ble_eq_true rfl) rfl rfl, Option.bind_some, Option.bind_some, if_pos n_b1]
  refine ⟨_, rfl, by show g3.1 = _; omega, by show g3.2.1 = _; omega, ?_, ?_, ?_⟩
  · refine (if_pos rfl).trans ?_
    rw [g1n, n_1, n_add]; rfl
  · rw [← g1n]
    refine (if_neg hna).trans ((if_pos rfl).trans ?_)
    rfl
  · intro q h1 h2
    rw [← g1n] at h2
    exact (if_neg h1).trans ((if_neg h2).trans (g3e q h1 h2))
/-- push, whether there is room or not -/
theorem al_pushG {α : Type} {N : Nat} {C : Nat × Nat} {P : Nat → Prop} {R : Nat → α → Prop} {g : ag_H} {l b ci : Nat} {fs : List Value} {xs : List α} {x : α} (r : al_rep P R g l xs) (hl : xs.length < 30) (hR : R b x) (hRc : ∀ b' y, R b' y → ∃ ci fs, ag_at g (.ref b') = some (.inr (ci, fs)) ∧ ci ≤ 10) (hb : ag_at g (.ref b) = some (.inr (ci, fs))) (hc : ci ≤ 10) (hC1 : g.1 + 1 ≤ C.1) (hC2 : g.2.1 + 45 ≤ C.2) (hP : P g.1) :
    ∃ g', fn_AL_add N C l (some b) g = some (Int32.ofInt 1, g') ∧ al_rep P R g' l (xs ++ [x]) ∧ g.1 ≤ g'.1 ∧ g'.1 ≤ g.1 + 1 ∧ g.2.1 ≤ g'.2.1 ∧ g'.2.1 ≤ g.2.1 + 45 ∧ (∀ q, ¬ P q → g'.2.2 q = g.2.2 q) ∧ (∀ q, q < g.1 → (∀ y, g.2.2 q ≠ .inr (11, y)) → (∀ y, g.2.2 q ≠ .inl (4, y)) → g'.2.2 q = g.2.2 q) := by
  have r0 := r
  obtain ⟨h1, h2, h3, md, h4⟩ := r
  rcases h4 with ⟨h5, h6⟩ | ⟨e, n0, v, e1, e2, e3, e4, e5, e6, e7, e8, e9⟩
  · subst h5
    obtain ⟨g', k1, k2, k3, k4, k5, k6, k7, k8⟩ := al_push (N := N) (C := C) r0 (by show 0 < 10; omega) hR hb hc hC1 (by omega) hP
    exact ⟨g', k1, k2, k3, k4, k5, by omega, k7, k8⟩
  · by_cases hfull : xs.length = n0
    · have e4' : ag_at g (.ref l) = some (.inr (11, [.ref e, .int (Int32.ofNat n0), .int md])) := by rw [← hfull]; exact pu_at h2 h3 e4
      obtain ⟨g', k1, k2, k3, k4, k5, k6⟩ := al_addg (N := N) (C := C) e4' (pu_at e2 e3 e5) ⟨e7, e8⟩ (fun i hi b' hb' => by
        rw [← hfull] at hi
        obtain ⟨b2, hb2, hb3⟩ := e9 i _ (List.getElem?_eq_getElem hi)
        rw [hb'] at hb2
        cases hb2
        exact hRc _ _ hb3) hb hc hC1 (by omega)
      refine ⟨g', k1, ⟨h1, h2, by omega, _, Or.inr ⟨g.1, n0 + n0 / 2, _, hP, by omega, by omega, by rw [k4, List.length_append, hfull]; rfl, k5, by rw [List.length_append, hfull]; simp only [List.length_cons, List.length_nil]; omega, by omega, by omega, ?_⟩⟩, by omega, by omega, by omega, by omega, ?_, ?_⟩
      · intro i y hy
        show ∃ b', (if i = n0 then some b else va_cpy v (fun _ => none) 0 0 n0 i) = some b' ∧ _
        by_cases hi : i = n0
        · rw [if_pos hi]
          rw [hi, ← hfull, List.getElem?_append_right (Nat.le_refl _), Nat.sub_self] at hy
          cases hy
          exact ⟨b, rfl, hR⟩
        · have hlt : i < xs.length := by
            have := (List.getElem?_eq_some_iff.mp hy).1
            rw [List.length_append] at this
            simp only [List.length_cons, List.length_nil] at this
            omega
          rw [List.getElem?_append_left hlt] at hy
          obtain ⟨b', hb1, hb2⟩ := e9 i y hy
          refine ⟨b', ?_, hb2⟩
          rw [if_neg hi]
          unfold va_cpy
          rw [if_pos (by omega), show 0 + (i - 0) = i by omega, hb1]
      · intro q hq
        exact k6 q (fun w => hq (w ▸ h1)) (fun w => hq (w ▸ hP))
      · intro q hq n1 n2
        exact k6 q (fun w => n1 _ (w ▸ e4)) (by omega)
    · obtain ⟨g', k1, k2, k3, k4, k5, k6⟩ := al_add1 (N := N) (C := C) (pu_at h2 h3 e4) (pu_at e2 e3 e5) (by omega) (by omega) hb hc
      have hle : g'.2.2 l = .inr (11, [.ref e, .int (Int32.ofNat (xs ++ [x]).length), .int (md + Int32.ofInt 1)]) := by
        rw [k4, List.length_append]; rfl
      refine ⟨g', k1, ⟨h1, h2, by omega, _, Or.inr ⟨e, n0, _, e1, e2, by omega, hle, k5, by rw [List.length_append]; simp only [List.length_cons, List.length_nil]; omega, e7, e8, ?_⟩⟩, by omega, by omega, by omega, by omega, ?_, ?_⟩
      · intro i y hy
        show ∃ b', (if i = xs.length then some b else v i) = some b' ∧ _
        by_cases hi : i = xs.length
        · subst hi
          rw [List.getElem?_append_right (Nat.le_refl _), Nat.sub_self] at hy
          cases hy
          exact ⟨b, if_pos rfl, hR⟩
        · have hlt : i < xs.length := by
            have := (List.getElem?_eq_some_iff.mp hy).1
            rw [List.length_append] at this
            simp only [List.length_cons, List.length_nil] at this
            omega
          rw [List.getElem?_append_left hlt] at hy
          obtain ⟨b', hb1, hb2⟩ := e9 i y hy
          exact ⟨b', by rw [if_neg hi, hb1], hb2⟩
      · intro q hq
        exact k6 q (fun w => hq (w ▸ h1)) (fun w => hq (w ▸ e1))
      · intro q hq n1 n2
        exact k6 q (fun w => n1 _ (w ▸ e4)) (fun w => n2 _ (w ▸ e5))
