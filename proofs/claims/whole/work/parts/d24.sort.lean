/-! ### The facts in order -/
def r_en (r : j_R) : Int := (((r.1.toInt * 4294967296 + r.2.1.toInt) * 4294967296 + r.2.2.1.toInt) * 4294967296 + r.2.2.2.1.toInt) * 4294967296 + r.2.2.2.2.toInt
theorem i32_b (x : Int32) : -2147483648 ≤ x.toInt ∧ x.toInt ≤ 2147483647 := ⟨Int32.le_toInt x, by have := Int32.toInt_lt x; omega⟩
theorem r_en_inj {r s : j_R} (h : r_en r = r_en s) : r = s := by
  obtain ⟨r0, r1, r2, r3, r4⟩ := r
  obtain ⟨s0, s1, s2, s3, s4⟩ := s
  unfold r_en at h
  simp only at h
  have a0 := i32_b r0
  have a1 := i32_b r1
  have a2 := i32_b r2
  have a3 := i32_b r3
  have a4 := i32_b r4
  have b0 := i32_b s0
  have b1 := i32_b s1
  have b2 := i32_b s2
  have b3 := i32_b s3
  have b4 := i32_b s4
  have e4 : r4.toInt = s4.toInt := by omega
  have e3 : r3.toInt = s3.toInt := by omega
  have e2 : r2.toInt = s2.toInt := by omega
  have e1 : r1.toInt = s1.toInt := by omega
  have e0 : r0.toInt = s0.toInt := by omega
  rw [Int32.toInt_inj.mp e0, Int32.toInt_inj.mp e1, Int32.toInt_inj.mp e2, Int32.toInt_inj.mp e3, Int32.toInt_inj.mp e4]
/-- the first difference as a number -/
theorem od_en {f1 f2 : Nat → Int32} : (j_od f1 f2 5 0 = Int32.ofInt 1 ↔ r_en (j_row f2) < r_en (j_row f1)) ∧ (j_od f1 f2 5 0 = Int32.ofInt (-1) ↔ r_en (j_row f1) < r_en (j_row f2)) := by
  have n1 : ¬ Int32.ofInt 1 = Int32.ofInt (-1) := by decide
  have n2 : ¬ Int32.ofInt (-1) = Int32.ofInt 1 := by decide
  have n3 : ¬ Int32.ofInt 0 = Int32.ofInt 1 := by decide
  have n4 : ¬ Int32.ofInt 0 = Int32.ofInt (-1) := by decide
  have A : ∀ i, (-2147483648 ≤ (f1 i).toInt ∧ (f1 i).toInt ≤ 2147483647) ∧ (-2147483648 ≤ (f2 i).toInt ∧ (f2 i).toInt ≤ 2147483647) := fun i => ⟨i32_b _, i32_b _⟩
  have a0 := A 0
  have a1 := A 1
  have a2 := A 2
  have a3 := A 3
  have a4 := A 4
  have st : ∀ i, ¬ f1 i = f2 i → ((if f2 i ≤ f1 i then Int32.ofInt 1 else Int32.ofInt (-1)) = Int32.ofInt 1 ↔ (f2 i).toInt < (f1 i).toInt) ∧ ((if f2 i ≤ f1 i then Int32.ofInt 1 else Int32.ofInt (-1)) = Int32.ofInt (-1) ↔ (f1 i).toInt < (f2 i).toInt) ∧ ((f2 i).toInt < (f1 i).toInt ∨ (f1 i).toInt < (f2 i).toInt) := by
    intro i hi
    have hne : (f1 i).toInt ≠ (f2 i).toInt := fun q => hi (Int32.toInt_inj.mp q)
    by_cases e : f2 i ≤ f1 i
    · rw [if_pos e]
      rw [Int32.le_iff_toInt_le] at e
      exact ⟨⟨fun _ => by omega, fun _ => rfl⟩, ⟨fun q => absurd q n1, fun q => by omega⟩, by omega⟩
    · rw [if_neg e]
      rw [Int32.le_iff_toInt_le] at e
      exact ⟨⟨fun q => absurd q n2, fun q => by omega⟩, ⟨fun q => by omega, fun _ => rfl⟩, by omega⟩
  unfold r_en j_row
  simp only [j_od]
  by_cases e0 : f1 0 = f2 0
  · rw [if_pos e0]
    have t0 : (f1 0).toInt = (f2 0).toInt := by rw [e0]
    by_cases e1 : f1 1 = f2 1
    · rw [if_pos e1]
      have t1 : (f1 1).toInt = (f2 1).toInt := by rw [e1]
      by_cases e2 : f1 2 = f2 2
      · rw [if_pos e2]
        have t2 : (f1 2).toInt = (f2 2).toInt := by rw [e2]
        by_cases e3 : f1 3 = f2 3
        · rw [if_pos e3]
          have t3 : (f1 3).toInt = (f2 3).toInt := by rw [e3]
          by_cases e4 : f1 4 = f2 4
          · rw [if_pos e4]
            have t4 : (f1 4).toInt = (f2 4).toInt := by rw [e4]
            exact ⟨⟨fun q => absurd q n3, fun q => by omega⟩, ⟨fun q => absurd q n4, fun q => by omega⟩⟩
          · rw [if_neg e4]
            obtain ⟨s1, s2, s3⟩ := st 4 e4
            exact ⟨s1.trans ⟨fun q => by omega, fun q => by omega⟩, s2.trans ⟨fun q => by omega, fun q => by omega⟩⟩
        · rw [if_neg e3]
          obtain ⟨s1, s2, s3⟩ := st 3 e3
          exact ⟨s1.trans ⟨fun q => by omega, fun q => by omega⟩, s2.trans ⟨fun q => by omega, fun q => by omega⟩⟩
      · rw [if_neg e2]
        obtain ⟨s1, s2, s3⟩ := st 2 e2
        exact ⟨s1.trans ⟨fun q => by omega, fun q => by omega⟩, s2.trans ⟨fun q => by omega, fun q => by omega⟩⟩
    · rw [if_neg e1]
      obtain ⟨s1, s2, s3⟩ := st 1 e1
      exact ⟨s1.trans ⟨fun q => by omega, fun q => by omega⟩, s2.trans ⟨fun q => by omega, fun q => by omega⟩⟩
  · rw [if_neg e0]
    obtain ⟨s1, s2, s3⟩ := st 0 e0
    exact ⟨s1.trans ⟨fun q => by omega, fun q => by omega⟩, s2.trans ⟨fun q => by omega, fun q => by omega⟩⟩
theorem od_le {f1 f2 : Nat → Int32} : j_od f1 f2 5 0 ≤ 0 ↔ r_en (j_row f1) ≤ r_en (j_row f2) := by
  have h := od_en (f1 := f1) (f2 := f2)
  have t : j_od f1 f2 5 0 = Int32.ofInt 0 ∨ j_od f1 f2 5 0 = Int32.ofInt 1 ∨ j_od f1 f2 5 0 = Int32.ofInt (-1) := by
    have : ∀ n i, j_od f1 f2 n i = Int32.ofInt 0 ∨ j_od f1 f2 n i = Int32.ofInt 1 ∨ j_od f1 f2 n i = Int32.ofInt (-1) := by
      intro n
      induction n with
      | zero => exact fun i => Or.inl rfl
      | succ n ih =>
        intro i
        unfold j_od
        split
        · exact ih _
        · split
          · exact Or.inr (Or.inl rfl)
          · exact Or.inr (Or.inr rfl)
    exact this 5 0
  rcases t with t | t | t
  · have n1 : ¬ r_en (j_row f2) < r_en (j_row f1) := fun q => absurd (t.symm.trans (h.1.mpr q)) (by decide)
    rw [t]
    exact ⟨fun _ => by omega, fun _ => by decide⟩
  · have n1 := h.1.mp t
    rw [t]
    exact ⟨fun q => absurd q (by decide), fun q => by omega⟩
  · have n1 := h.2.mp t
    rw [t]
    exact ⟨fun _ => by omega, fun _ => by decide⟩
abbrev r_srt (L : List j_R) : Prop := L.Pairwise (fun a b => r_en a ≤ r_en b)
def sra (ra : Nat → Nat) (k : Nat) : Nat → Nat := fun j => if j = k then ra (k + 1) else if j = k + 1 then ra k else ra j
theorem fa_swap {rw : Nat → Nat → Int32} {ra : Nat → Nat} {A C : List j_R} {a b : j_R} (h : fa_rep rw ra (A ++ a :: b :: C)) : fa_rep rw (sra ra A.length) (A ++ b :: a :: C) := by
  obtain ⟨h1, h2⟩ := h
  refine ⟨by simpa using h1, fun i r hr => ?_⟩
  unfold sra
  by_cases e1 : i < A.length
  · rw [if_neg (by omega), if_neg (by omega)]
    rw [List.getElem?_append_left e1] at hr
    exact h2 i r (by rw [List.getElem?_append_left e1]; exact hr)
  · obtain ⟨j, rfl⟩ : ∃ j, i = A.length + j := ⟨i - A.length, by omega⟩
    rw [List.getElem?_append_right (by omega), show A.length + j - A.length = j by omega] at hr
    match j, hr with
    | 0, hr =>
      rw [if_pos (by omega)]
      refine h2 _ r ?_
      rw [List.getElem?_append_right (by omega), show A.length + 1 - A.length = 1 by omega]
      exact hr
    | 1, hr =>
      rw [if_neg (by omega), if_pos rfl]
      refine h2 _ r ?_
      rw [List.getElem?_append_right (by omega), Nat.sub_self]
      exact hr
    | j + 2, hr =>
      rw [if_neg (by omega), if_neg (by omega)]
      refine h2 _ r ?_
      rw [List.getElem?_append_right (by omega), show A.length + (j + 2) - A.length = j + 2 by omega]
      exact hr
theorem ra_swap {rv : Nat → Option Nat} {ra : Nat → Nat} {k : Nat} (hk : k + 1 < 31) (h : ra_ok rv ra) : ra_ok (va_up (va_up rv (k + 1) (rv k)) k (rv (k + 1))) (sra ra k) := by
  obtain ⟨h1, h2⟩ := h
  refine ⟨fun i hi => ?_, fun i j hi hj hij => ?_⟩
  · unfold sra va_up
    by_cases e1 : i = k
    · subst e1
      rw [if_pos rfl, if_pos rfl]
      exact h1 _ hk
    · rw [if_neg e1, if_neg e1]
      by_cases e2 : i = k + 1
      · rw [if_pos e2, if_pos e2]
        exact h1 _ (by omega)
      · rw [if_neg e2, if_neg e2]
        exact h1 _ hi
  · unfold sra at hij
    by_cases a1 : i = k
    · rw [if_pos a1] at hij
      by_cases b1 : j = k
      · omega
      · rw [if_neg b1] at hij
        by_cases b2 : j = k + 1
        · rw [if_pos b2] at hij
          have := h2 _ _ (by omega) (by omega) hij
          omega
        · rw [if_neg b2] at hij
          have := h2 _ _ (by omega) (by omega) hij
          omega
    · rw [if_neg a1] at hij
      by_cases a2 : i = k + 1
      · rw [if_pos a2] at hij
        by_cases b1 : j = k
        · rw [if_pos b1] at hij
          have := h2 _ _ (by omega) (by omega) hij
          omega
        · rw [if_neg b1] at hij
          by_cases b2 : j = k + 1
          · omega
          · rw [if_neg b2] at hij
            have := h2 _ _ (by omega) (by omega) hij
            omega
      · rw [if_neg a2] at hij
        by_cases b1 : j = k
        · rw [if_pos b1] at hij
          have := h2 _ _ (by omega) (by omega) hij
          omega
        · rw [if_neg b1] at hij
          by_cases b2 : j = k + 1
          · rw [if_pos b2] at hij
            have := h2 _ _ (by omega) (by omega) hij
            omega
          · rw [if_neg b2] at hij
            exact h2 _ _ hi hj hij
section SO
variable {N : Nat} {C : Nat × Nat} {g : ag_H} {re rd un : Int32} {kn : Nat} {rf tr he mi fa : Int32} {sz : Nat} {ov : Int32} {room : Nat} {rw : Nat → Nat → Int32} {va sk : Nat → Int32}
theorem js_asi (o : 75 ≤ g.1) {rv : Nat → Option Nat} {i b : Nat} (hi : i < 31) (hb : 10 ≤ b ∧ b ≤ 40) : ag_asi (js g re rd un kn rf tr he mi fa sz ov room rv rw va sk) (some 9) (Int32.ofNat i) (some b) = some (js g re rd un kn rf tr he mi fa sz ov room (va_up rv i (some b)) rw va sk) := by
  have e9 : ag_at (js g re rd un kn rf tr he mi fa sz ov room rv rw va sk) (ag_rf (some 9)) = _ := js_at9 o
  have eb : ag_at (js g re rd un kn rf tr he mi fa sz ov room rv rw va sk) (ag_rf (some b)) = _ := js_row o hb.1 hb.2
  unfold ag_asi
  rw [e9, eb]
  show (if ((6 : Nat) = 6 ∧ (0 : Nat) = 0) ∧ md_in (Int32.ofNat i) 31 = true then _ else _) = _
  rw [if_pos ⟨⟨rfl, rfl⟩, by rw [n_in (by omega)]; exact hi⟩, n_nat (by omega)]
  exact congrArg some js_up9
theorem c_so12 (o : 75 ≤ g.1) (hN : 60 ≤ N) {k2 : Int32 → ag_H → Option (Int32 × ag_H)} {i : Nat} (hi : i < 31) {r : j_R} {B : List j_R} : ∀ (n d : Nat) (A1 A2 : List j_R) (rv : Nat → Option Nat) (ra : Nat → Nat), A1.length = n → n < d → ra_ok rv ra → fa_rep rw ra (A1 ++ r :: (A2 ++ B)) → r_srt (A1 ++ A2) → (∀ a, a ∈ A2 → r_en r ≤ r_en a) →
    ∃ rv' ra' A', fn_Fa_sort_12 N C 8 k2 d (Int32.ofNat i) (Int32.ofNat n) (js g re rd un kn rf tr he mi fa sz ov room rv rw va sk) = k2 (Int32.ofNat (i + 1)) (js g re rd un kn rf tr he mi fa sz ov room rv' rw va sk) ∧ ra_ok rv' ra' ∧ fa_rep rw ra' (A' ++ B) ∧ A'.Perm (A1 ++ r :: A2) ∧ r_srt A'
  | n, 0, _, _, _, _, _, hd, _, _, _, _ => absurd hd (by omega)
  | 0, d + 1, A1, A2, rv, ra, hA, hd, hra, hf, hs, hr => by
    have : A1 = [] := List.eq_nil_of_length_eq_zero hA
    subst this
    refine ⟨rv, ra, r :: A2, ?_, hra, hf, List.Perm.refl _, ?_⟩
    · rw [fe_Fa_sort_12, if_pos (show Int32.ofNat 0 ≤ 0 by decide)]
      unfold fn_Fa_sort_72
      rw [n_1, n_add]
    · exact List.Pairwise.cons hr hs
  | n + 1, d + 1, A1, A2, rv, ra, hA, hd, hra, hf, hs, hr => by
    obtain ⟨A, a, rfl⟩ : ∃ A a, A1 = A ++ [a] := by
      have hne : A1 ≠ [] := by intro q; rw [q] at hA; simp at hA
      exact ⟨A1.dropLast, A1.getLast hne, (List.dropLast_concat_getLast hne).symm⟩
    have hAn : A.length = n := by simpa using hA
    rw [List.append_assoc] at hf hs
    have hf' : fa_rep rw ra (A ++ a :: r :: (A2 ++ B)) := hf
    have hl : A.length + (A2.length + B.length + 1 + 1) ≤ 30 := by simpa using hf'.1
    have hin1 : md_in (Int32.ofNat n) 31 = true := by rw [n_in (by omega)]; omega
    have hin2 : md_in (Int32.ofNat (n + 1)) 31 = true := by rw [n_in (by omega)]; omega
    obtain ⟨p1, p2, p3⟩ := hra.1 n (by omega)
    obtain ⟨q1, q2, q3⟩ := hra.1 (n + 1) (by omega)
    have ea : j_row (rw (ra n)) = a := hf'.2 n a (by rw [← hAn, List.getElem?_append_right (Nat.le_refl _), Nat.sub_self]; rfl)
    have er : j_row (rw (ra (n + 1))) = r := hf'.2 (n + 1) r (by rw [← hAn, List.getElem?_append_right (by omega), show A.length + 1 - A.length = 1 by omega]; rfl)
    have e0 : ¬ Int32.ofNat (n + 1) ≤ 0 := n_leF (a := n + 1) (b := 0) (by omega) (by omega)
    have es : Int32.ofNat (n + 1) - Int32.ofInt 1 = Int32.ofNat n := by rw [n_1, n_sub (by omega)]; rfl
    have nn : (Int32.ofNat n).toNatClampNeg = n := n_nat (by omega)
    have nn1 : (Int32.ofNat (n + 1)).toNatClampNeg = n + 1 := n_nat (by omega)
    have hod := od_le (f1 := rw (ra n)) (f2 := rw (ra (n + 1)))
    rw [ea, er] at hod
    by_cases c : r_en a ≤ r_en r
    · refine ⟨rv, ra, (A ++ [a]) ++ r :: A2, ?_, hra, by simpa using hf', List.Perm.refl _, ?_⟩
      · rw [fe_Fa_sort_12, if_neg e0, js_r8_0 o, Option.bind_some, js_ao o, Option.bind_some, es, if_pos hin1, Option.bind_some, js_ao o, Option.bind_some, if_pos hin2, nn, nn1]
        show ((fn_Fa_order N C (rv n) (rv (n + 1)) _).bind _) = _
        rw [p1, q1, c_order o hN ⟨p2, p3⟩ ⟨q2, q3⟩, Option.bind_some, if_pos (hod.mpr c)]
        unfold fn_Fa_sort_72
        rw [n_1, n_add]
      · rw [List.append_assoc]
        have hs' : r_srt (A ++ a :: A2) := hs
        show r_srt (A ++ a :: r :: A2)
        unfold r_srt at hs' ⊢
        rw [List.pairwise_append] at hs' ⊢
        obtain ⟨s1, s2, s3⟩ := hs'
        rw [List.pairwise_cons] at s2
        refine ⟨s1, ?_, fun x hx y hy => ?_⟩
        · rw [List.pairwise_cons, List.pairwise_cons]
          refine ⟨fun y hy => ?_, hr, s2.2⟩
          rcases List.mem_cons.mp hy with rfl | hy
          · exact c
          · exact s2.1 y hy
        · have t := s3 x hx a (List.mem_cons_self ..)
          rcases List.mem_cons.mp hy with rfl | hy
          · exact t
          · rcases List.mem_cons.mp hy with rfl | hy
            · omega
            · exact s3 x hx y (List.mem_cons_of_mem _ hy)
    · have hfs := fa_swap hf'
      rw [hAn] at hfs
      have hras := ra_swap (k := n) (by omega) hra
      obtain ⟨rv', ra', A', z1, z2, z3, z4, z5⟩ := c_so12 (k2 := k2) o hN hi n d A (a :: A2) _ _ hAn (by omega) hras hfs hs (fun y hy => by
        rcases List.mem_cons.mp hy with rfl | hy
        · omega
        · exact hr y hy)
      refine ⟨rv', ra', A', ?_, z2, z3, z4.trans ?_, z5⟩
      · rw [fe_Fa_sort_12, if_neg e0, js_r8_0 o, Option.bind_some, js_ao o, Option.bind_some, es, if_pos hin1, Option.bind_some, js_ao o, Option.bind_some, if_pos hin2, nn, nn1]
        show ((fn_Fa_order N C (rv n) (rv (n + 1)) _).bind _) = _
        rw [p1, q1, c_order o hN ⟨p2, p3⟩ ⟨q2, q3⟩, Option.bind_some, if_neg (fun q => c (hod.mp q))]
        show ((ag_gr (js g re rd un kn rf tr he mi fa sz ov room rv rw va sk) (some 8) 4 0).bind _) = _
        rw [js_r8_0 o, Option.bind_some, js_ao o, Option.bind_some, if_pos hin2, Option.bind_some, Option.bind_some, js_ao o, Option.bind_some, if_pos hin1]
        show ((ag_asi (js g re rd un kn rf tr he mi fa sz ov room rv rw va sk) _ _ (rv n)).bind _) = _
        rw [p1, js_asi o (by omega) ⟨p2, p3⟩, Option.bind_some, js_r8_0 o, Option.bind_some]
        show ((ag_asi _ _ _ (rv (n + 1))).bind _) = _
        rw [q1, js_asi o (by omega) ⟨q2, q3⟩, Option.bind_some]
        rw [← z1, p1, q1]
        have em : Int32.ofNat (n + 1) + Int32.ofInt (-1) = Int32.ofNat n := by
          rw [show Int32.ofInt (-1) = - Int32.ofInt 1 from by decide, ← Int32.sub_eq_add_neg]
          exact es
        rw [em]
      · rw [List.append_assoc]
        show (A ++ r :: a :: A2).Perm (A ++ a :: r :: A2)
        exact List.Perm.append_left A (List.Perm.swap a r A2)
/-- the outer loop -/
theorem c_so2 (o : 75 ≤ g.1) (hN : 60 ≤ N) : ∀ (n d : Nat) (A B : List j_R) (rv : Nat → Option Nat) (ra : Nat → Nat), B.length = n → n < d → 1 ≤ A.length ∨ n = 0 → sz = (A ++ B).length → ra_ok rv ra → fa_rep rw ra (A ++ B) → r_srt A →
    ∃ rv' ra' Gs, fn_Fa_sort_2 N C 8 d (Int32.ofNat A.length) (js g re rd un kn rf tr he mi fa sz ov room rv rw va sk) = some (0, js g re rd un kn rf tr he mi fa sz ov room rv' rw va sk) ∧ ra_ok rv' ra' ∧ fa_rep rw ra' Gs ∧ Gs.Perm (A ++ B) ∧ r_srt Gs
  | n, 0, _, _, _, _, _, hd, _, _, _, _, _ => absurd hd (by omega)
  | 0, d + 1, A, B, rv, ra, hB, hd, h1, hsz, hra, hf, hs => by
    have : B = [] := List.eq_nil_of_length_eq_zero hB
    subst this
    have hl := hf.1
    refine ⟨rv, ra, A ++ [], ?_, hra, hf, List.Perm.refl _, by rw [List.append_nil]; exact hs⟩
    rw [fe_Fa_sort_2, js_g8_1 o, Option.bind_some, if_pos]
    rw [hsz]
    rw [List.append_nil] at hl ⊢
    exact n_leT (Nat.le_refl _) (by omega)
  | n + 1, d + 1, A, [], rv, ra, hB, hd, h1, hsz, hra, hf, hs => absurd hB (by simp)
  | n + 1, d + 1, A, r :: B, rv, ra, hB, hd, h1, hsz, hra, hf, hs => by
    have hl : A.length + (B.length + 1) ≤ 30 := by simpa using hf.1
    have hB' : B.length = n := by simpa using hB
    have hz : sz = A.length + (B.length + 1) := by simpa using hsz
    obtain ⟨rv1, ra1, A', z1, z2, z3, z4, z5⟩ := c_so12 (C := C) (g := g) (re := re) (rd := rd) (un := un) (kn := kn) (rf := rf) (tr := tr) (he := he) (mi := mi) (fa := fa) (sz := sz) (ov := ov) (room := room) (va := va) (sk := sk) (k2 := fn_Fa_sort_2 N C 8 d) o hN (i := A.length) (by omega) (r := r) (B := B) A.length N A [] rv ra rfl (by omega) hra hf (by rw [List.append_nil]; exact hs) (fun a ha => absurd ha (by simp))
    have hl' : A'.length = A.length + 1 := by rw [z4.length_eq]; simp
    obtain ⟨rv2, ra2, Gs, y1, y2, y3, y4, y5⟩ := c_so2 o hN n d A' B rv1 ra1 hB' (by omega) (Or.inl (by omega)) (by rw [List.length_append, hz, hl']; omega) z2 z3 z5
    refine ⟨rv2, ra2, Gs, ?_, y2, y3, y4.trans ?_, y5⟩
    · rw [fe_Fa_sort_2, js_g8_1 o, Option.bind_some, if_neg (n_leF (by omega) (by omega)), z1, ← hl', y1]
    · have := List.Perm.append_right B z4
      rwa [List.append_assoc] at this
theorem c_sort (o : 75 ≤ g.1) (hN : 60 ≤ N) {G : List j_R} {rv : Nat → Option Nat} {ra : Nat → Nat} (hra : ra_ok rv ra) (hf : fa_rep rw ra G) : ∃ rv' ra' Gs, fn_Fa_sort N C 8 (js g re rd un kn rf tr he mi fa G.length ov room rv rw va sk) = some (0, js g re rd un kn rf tr he mi fa Gs.length ov room rv' rw va sk) ∧ ra_ok rv' ra' ∧ fa_rep rw ra' Gs ∧ Gs.Perm G ∧ r_srt Gs := by
  unfold fn_Fa_sort fn_Fa_sort_0
  match G, hf with
  | [], hf =>
    refine ⟨rv, ra, [], ?_, hra, hf, List.Perm.refl _, List.Pairwise.nil⟩
    obtain ⟨d, rfl⟩ : ∃ d, N = d + 1 := ⟨N - 1, by omega⟩
    rw [fe_Fa_sort_2, js_g8_1 o, Option.bind_some, if_pos (show Int32.ofNat ([] : List j_R).length ≤ Int32.ofInt 1 by decide)]
  | r :: B, hf =>
    have hl : B.length + 1 ≤ 30 := hf.1
    obtain ⟨rv', ra', Gs, z1, z2, z3, z4, z5⟩ := c_so2 (C := C) (g := g) (re := re) (rd := rd) (un := un) (kn := kn) (rf := rf) (tr := tr) (he := he) (mi := mi) (fa := fa) (sz := (r :: B).length) (ov := ov) (room := room) (va := va) (sk := sk) o hN B.length N [r] B rv ra rfl (by omega) (Or.inl (Nat.le_refl 1)) rfl hra hf (List.pairwise_singleton _ _)
    refine ⟨rv', ra', Gs, ?_, z2, z3, z4, z5⟩
    have : Gs.length = (r :: B).length := z4.length_eq
    rw [this]
    exact z1
end SO
