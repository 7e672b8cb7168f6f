/-! ### Lists: an element is replaced, the last one is taken away -/
section ALO
variable {N : Nat} {C : Nat × Nat} {α : Type} {P : Nat → Prop} {R : Nat → α → Prop} {g : ag_H} {l : Nat} {xs : List α}
theorem al_chk {i n : Nat} (hi : i < n) (hn : n < 1000) : fn_Ob_checkIndex N C (Int32.ofNat i) (Int32.ofNat n) g = some (Int32.ofNat i, g) := by
  unfold fn_Ob_checkIndex fn_Ob_checkIndex_0 fn_Pr_checkIndex fn_Pr_checkIndex_0
  rw [if_neg (n_nn (by omega)), if_pos (n_ltT hi (by omega)), Option.bind_some]
theorem al_set {i b ci : Nat} {fs : List Value} {x : α} (r : al_rep P R g l xs) (hi : i < xs.length) (hR : R b x) (hb : ag_at g (.ref b) = some (.inr (ci, fs))) (hc : ci ≤ 10) : ∃ o g', fn_AL_set N C l (Int32.ofNat i) (some b) g = some (o, g') ∧ al_rep P R g' l (xs.set i x) ∧ g'.1 = g.1 ∧ g'.2.1 = g.2.1 ∧ (∀ q, ¬ P q → g'.2.2 q = g.2.2 q) ∧ ∀ q, (∀ y, g.2.2 q ≠ .inl (4, y)) → g'.2.2 q = g.2.2 q := by
  obtain ⟨h1, h2, h3, md, h4⟩ := r
  rcases h4 with ⟨h5, h6⟩ | ⟨e, n0, v, e1, e2, e3, e4, e5, e6, e7, e8, e9⟩
  · subst h5; exact absurd hi (by simp)
  · have ea := pu_at h2 h3 e4
    have ee := pu_at e2 e3 e5
    have hel : e ≠ l := by
      rintro rfl
      rw [e4] at e5
      cases e5
    have hin : md_in (Int32.ofNat i) n0 = true := by rw [n_in (by omega)]; omega
    refine ⟨v i, ag_up g e (.inl (4, n0, .inr (.inr (.inr (.inr (va_up v i (some b))))))), ?_, ⟨h1, h2, h3, md, Or.inr ⟨e, n0, va_up v i (some b), e1, e2, e3, ?_, if_pos rfl, by rw [List.length_set]; exact e6, e7, e8, ?_⟩⟩, rfl, rfl, fun q hq => if_neg (fun (w : q = e) => hq (w ▸ e1)), fun q hq => if_neg (fun (w : q = e) => hq _ (w ▸ e5))⟩
    · unfold fn_AL_set fn_AL_set_0 fn_AL_elementData fn_AL_elementData_0
      rw [pu_gi (k := 1) ea rfl, Option.bind_some, al_chk hi (by omega), Option.bind_some]
      dsimp only
      rw [pu_rc ea, Option.bind_some, pu_gr (k := 0) ea rfl, Option.bind_some, pu_ao ee, Option.bind_some, if_pos hin, Option.bind_some]
      dsimp only
      rw [pu_gr (k := 0) ea rfl, Option.bind_some, pu_as ee hin hb hc, Option.bind_some, n_nat (by omega)]
    · rw [List.length_set]
      exact (if_neg (Ne.symm hel)).trans e4
    · intro j y hy
      show ∃ b', (if j = i then some b else v j) = some b' ∧ _
      by_cases hj : j = i
      · subst hj
        rw [List.getElem?_set_self hi] at hy
        cases hy
        exact ⟨b, if_pos rfl, hR⟩
      · rw [List.getElem?_set_ne (Ne.symm hj)] at hy
        obtain ⟨b', hb1, hb2⟩ := e9 j y hy
        exact ⟨b', by rw [if_neg hj, hb1], hb2⟩
theorem al_rml {n : Nat} (r : al_rep P R g l xs) (hn : xs.length = n + 1) : ∃ o g', fn_AL_remove N C l (Int32.ofNat n) g = some (o, g') ∧ al_rep P R g' l (xs.take n) ∧ g'.1 = g.1 ∧ g'.2.1 = g.2.1 ∧ (∀ q, ¬ P q → g'.2.2 q = g.2.2 q) ∧ ∀ q, (∀ y, g.2.2 q ≠ .inr (11, y)) → (∀ y, g.2.2 q ≠ .inl (4, y)) → g'.2.2 q = g.2.2 q := by
  obtain ⟨h1, h2, h3, md, h4⟩ := r
  rcases h4 with ⟨h5, h6⟩ | ⟨e, n0, v, e1, e2, e3, e4, e5, e6, e7, e8, e9⟩
  · subst h5; exact absurd hn (by simp)
  · have ea := pu_at h2 h3 e4
    have ee := pu_at e2 e3 e5
    have hel : e ≠ l := by
      rintro rfl
      rw [e4] at e5
      cases e5
    have hin : md_in (Int32.ofNat n) n0 = true := by rw [n_in (by omega)]; omega
    have ea1 : ag_at (ag_up g l (.inr (11, [Value.ref e, Value.int (Int32.ofNat xs.length), Value.int md].set 2 (.int (md + Int32.ofInt 1))))) (.ref l) = some (.inr (11, [.ref e, .int (Int32.ofNat xs.length), .int (md + Int32.ofInt 1)])) := pu_up_eq _ ea
    have hsub : Int32.ofNat xs.length - Int32.ofInt 1 = Int32.ofNat n := by
      rw [hn, n_1, n_sub (by omega)]
      congr 1
    have ea2 : ag_at (ag_up (ag_up g l (.inr (11, [Value.ref e, Value.int (Int32.ofNat xs.length), Value.int md].set 2 (.int (md + Int32.ofInt 1))))) l (.inr (11, [Value.ref e, Value.int (Int32.ofNat xs.length), Value.int (md + Int32.ofInt 1)].set 1 (.int (Int32.ofNat n))))) (.ref l) = some (.inr (11, [.ref e, .int (Int32.ofNat n), .int (md + Int32.ofInt 1)])) := pu_up_eq _ ea1
    have ee2 : ag_at (ag_up (ag_up g l (.inr (11, [Value.ref e, Value.int (Int32.ofNat xs.length), Value.int md].set 2 (.int (md + Int32.ofInt 1))))) l (.inr (11, [Value.ref e, Value.int (Int32.ofNat xs.length), Value.int (md + Int32.ofInt 1)].set 1 (.int (Int32.ofNat n))))) (.ref e) = some (.inl (4, n0, .inr (.inr (.inr (.inr v))))) := (pu_up_ne _ hel).trans ((pu_up_ne _ hel).trans ee)
    have ea3 := (pu_up_ne (.inl (4, n0, .inr (.inr (.inr (.inr (va_up v n none)))))) (Ne.symm hel)).trans ea2
    have hlt : (xs.take n).length = n := by rw [List.length_take]; omega
    refine ⟨v n, ag_up (ag_up (ag_up g l (.inr (11, [Value.ref e, Value.int (Int32.ofNat xs.length), Value.int md].set 2 (.int (md + Int32.ofInt 1))))) l (.inr (11, [Value.ref e, Value.int (Int32.ofNat xs.length), Value.int (md + Int32.ofInt 1)].set 1 (.int (Int32.ofNat n))))) e (.inl (4, n0, .inr (.inr (.inr (.inr (va_up v n none)))))), ?_, ⟨h1, h2, h3, md + Int32.ofInt 1, Or.inr ⟨e, n0, va_up v n none, e1, e2, e3, ?_, if_pos rfl, by rw [hlt]; omega, e7, e8, ?_⟩⟩, rfl, rfl, fun q hq => ?_, fun q hq hq2 => ?_⟩
    · unfold fn_AL_remove fn_AL_remove_0
      rw [pu_gi (k := 1) ea rfl, Option.bind_some, al_chk (show n < xs.length by omega) (by omega), Option.bind_some]
      dsimp only
      rw [pu_gr (k := 0) ea rfl, Option.bind_some, pu_ao ee, Option.bind_some, if_pos hin, pu_rc ea, Option.bind_some]
      unfold fn_AL_fastRemove fn_AL_fastRemove_0 fn_AL_fastRemove_34
      rw [pu_gi (k := 2) ea rfl, Option.bind_some, pu_pf ea (Nat.le_of_ble_eq_true rfl) rfl rfl, Option.bind_some, pu_gi (k := 1) ea1 rfl, Option.bind_some, hsub, if_pos (n_leT (Nat.le_refl _) (by omega)), pu_pf ea1 (Nat.le_of_ble_eq_true rfl) rfl rfl, Option.bind_some, pu_as0 ee2 hin, Option.bind_some, Option.bind_some, n_nat (by omega)]
    · rw [hlt]
      exact (pu_inv ea3).2.2
    · intro j y hy
      have hj : j < n := by
        have := (List.getElem?_eq_some_iff.mp hy).1
        omega
      rw [List.getElem?_take_of_lt hj] at hy
      obtain ⟨b', hb1, hb2⟩ := e9 j y hy
      refine ⟨b', ?_, hb2⟩
      show (if j = n then none else v j) = some b'
      rw [if_neg (by omega), hb1]
    · have hl : q ≠ l := fun w => hq (w ▸ h1)
      have he : q ≠ e := fun w => hq (w ▸ e1)
      exact (if_neg he).trans ((if_neg hl).trans (if_neg hl))
    · have hl : q ≠ l := fun w => hq _ (w ▸ e4)
      have he : q ≠ e := fun w => hq2 _ (w ▸ e5)
      exact (if_neg he).trans ((if_neg hl).trans (if_neg hl))
end ALO
