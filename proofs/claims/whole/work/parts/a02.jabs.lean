/-! ### What the judge works out, over lists: terms, fits, steps -/
abbrev j_R : Type := Int32 × Int32 × Int32 × Int32 × Int32
def j_row (f : Nat → Int32) : j_R := (f 0, f 1, f 2, f 3, f 4)
def j_ix (t : Int) : Nat := (t - 1048576).toNat
def j_val (v : Nat → Int32) (t : Int) : Int32 := if t < 1048576 then Int32.ofInt t else v (j_ix t)
def j_tv (t : Int) : Prop := (-9999 ≤ t ∧ t ≤ 9999) ∨ (1048576 ≤ t ∧ t ≤ 1048583)
def j_ft (t : Int) (x : Int32) (m : Nat) (v : Nat → Int32) : Option (Nat × (Nat → Int32)) :=
  if t < 1048576 then (if Int32.ofInt t = x then some (m, v) else none)
  else if m.testBit (j_ix t) = true then (if v (j_ix t) = x then some (m, v) else none)
  else some (m ||| 2 ^ j_ix t, upd v (j_ix t) x)
def j_fit (a : g_A) (r : j_R) (tr : Int32) (m : Nat) (v : Nat → Int32) : Option (Nat × (Nat → Int32)) :=
  if r.1 = Int32.ofNat a.1 ∧ r.2.1 = Int32.ofNat a.2.1 ∧ r.2.2.2.2 &&& (tr ^^^ (Int32.ofInt (-1))) = 0 then (j_ft a.2.2.1 r.2.2.1 m v).bind fun p => j_ft a.2.2.2 r.2.2.2.1 p.1 p.2 else none
/-- all ways to find the atoms among the facts, in their order: with the origin and the values -/
def j_all (F : List j_R) (tr : Int32) : List g_A → Nat → (Nat → Int32) → Int32 → List (Int32 × (Nat → Int32))
  | [], _, v, og => [(og, v)]
  | a :: as, m, v, og => F.flatMap fun r => match j_fit a r tr m v with
    | none => []
    | some p => j_all F tr as p.1 p.2 (og ||| r.2.2.2.2)
def j_calc (s : Nat) (l r : Int32) : Option Int32 :=
  if s = 47 then (if r = 0 then none else some (l / r))
  else if (if s = 43 then l.toInt + r.toInt else if s = 45 then l.toInt - r.toInt else l.toInt * r.toInt) < -99999 ∨ 99999 < (if s = 43 then l.toInt + r.toInt else if s = 45 then l.toInt - r.toInt else l.toInt * r.toInt) then none
  else some (Int32.ofInt (if s = 43 then l.toInt + r.toInt else if s = 45 then l.toInt - r.toInt else l.toInt * r.toInt))
def j_cmp (s : Nat) (l r : Int32) : Bool := if s = 60 then decide (l < r) else if s = 62 then decide (r < l) else if s = 61 then decide (l = r) else decide (¬ l = r)
/-- 0: a comparison is not so; 1: all are so; 2: an error -/
def j_wk (v : Nat → Int32) : List Int → List Int32 → Nat
  | [], _ => 1
  | x :: xs, st => if 0 ≤ x then j_wk v xs (j_val v x :: st) else match st with
    | r :: l :: st => if g_isc (-x).toNat = true then (if j_cmp (-x).toNat l r = true then j_wk v xs st else 0) else (match j_calc (-x).toNat l r with
      | none => 2
      | some z => j_wk v xs (z :: st))
    | _ => 1
def av (m : Nat) (va v : Nat → Int32) : Prop := ∀ i, i < 8 → m.testBit i = true → va i = v i
theorem jb_bits : ∀ m : Fin 256, ∀ i : Fin 8, (g_bit (1048576 + (i.val : Int)) &&& (Int32.ofNat m.val ^^^ (Int32.ofInt (-1))) = 0 ↔ m.val.testBit i.val = true) ∧ Int32.ofNat m.val ||| g_bit (1048576 + (i.val : Int)) = Int32.ofNat (m.val ||| 2 ^ i.val) ∧ m.val ||| 2 ^ i.val < 256 := by decide +kernel
theorem j_ix_lt {t : Int} (h : j_tv t) (h2 : ¬ t < 1048576) : j_ix t < 8 ∧ t = 1048576 + (j_ix t : Int) := by
  unfold j_tv at h
  unfold j_ix
  omega
theorem g_bit0 {t : Int} (h : t < 1048576) : g_bit t = 0 := if_pos h
theorem and_zero_l (x : Int32) : (0 : Int32) &&& x = 0 := Int32.zero_and
section JF
variable {N : Nat} {C : Nat × Nat} {g : ag_H} {re rd un : Int32} {kn : Nat} {rf tr he mi fa : Int32} {sz : Nat} {ov : Int32} {room : Nat} {rv : Nat → Option Nat} {rw : Nat → Nat → Int32} {va sk : Nat → Int32}
theorem c_val (o : 75 ≤ g.1) {t : Int} (ht : j_tv t) : fn_Jg_valueOf N C 7 (Int32.ofInt t) (js g re rd un kn rf tr he mi fa sz ov room rv rw va sk) = some (j_val va t, js g re rd un kn rf tr he mi fa sz ov room rv rw va sk) := by
  have hb : -2147483648 ≤ t ∧ t < 2147483648 := by unfold j_tv at ht; omega
  unfold fn_Jg_valueOf fn_Jg_valueOf_0 fn_Jg_valueOf_19 j_val
  rw [show (1048576 : Int32) = Int32.ofInt 1048576 from rfl]
  by_cases e : t < 1048576
  · rw [if_pos (by rw [i_lt hb.1 hb.2 (by decide) (by decide)]; exact e), if_pos e]
  · obtain ⟨h1, h2⟩ := j_ix_lt ht e
    have h3 : Int32.ofInt t - Int32.ofInt 1048576 = Int32.ofNat (j_ix t) := by
      rw [← Int32.ofInt_sub]
      show _ = Int32.ofInt (j_ix t : Int)
      congr 1
      omega
    rw [if_neg (by rw [i_lt hb.1 hb.2 (by decide) (by decide)]; exact e), if_neg e, js_r7_6 o, Option.bind_some, js_va o, Option.bind_some, h3, if_pos (by rw [n_in (by omega)]; exact h1), n_nat (by omega)]
theorem c_ft (o : 75 ≤ g.1) {t : Int} (ht : j_tv t) {x : Int32} {m : Nat} (hm : m < 256) {v : Nat → Int32} (ha : av m va v) : match j_ft t x m v with
    | some r => r.1 < 256 ∧ ∃ va', fn_Jg_fitTerm N C 7 (Int32.ofInt t) x (Int32.ofNat m) (js g re rd un kn rf tr he mi fa sz ov room rv rw va sk) = some (Int32.ofNat r.1, js g re rd un kn rf tr he mi fa sz ov room rv rw va' sk) ∧ av r.1 va' r.2
    | none => fn_Jg_fitTerm N C 7 (Int32.ofInt t) x (Int32.ofNat m) (js g re rd un kn rf tr he mi fa sz ov room rv rw va sk) = some (Int32.ofInt (-1), js g re rd un kn rf tr he mi fa sz ov room rv rw va sk) := by
  have hb : -2147483648 ≤ t ∧ t < 2147483648 := by unfold j_tv at ht; omega
  unfold fn_Jg_fitTerm fn_Jg_fitTerm_0 fn_Jg_fitTerm_44 j_ft
  rw [c_bit t hb.1 hb.2, Option.bind_some]
  dsimp only
  by_cases e : t < 1048576
  · rw [if_pos e, g_bit0 e, and_zero_l, if_pos rfl, js_rc7 o, Option.bind_some, c_val o ht, Option.bind_some]
    dsimp only
    have hv : j_val va t = Int32.ofInt t := if_pos e
    rw [hv]
    by_cases e2 : Int32.ofInt t = x
    · rw [if_pos e2, if_pos e2]
      exact ⟨hm, va, rfl, ha⟩
    · rw [if_neg e2, if_neg e2]
  · obtain ⟨h1, h2⟩ := j_ix_lt ht e
    obtain ⟨b1, b2, b3⟩ := jb_bits ⟨m, hm⟩ ⟨j_ix t, h1⟩
    simp only at b1 b2 b3
    rw [← h2] at b1 b2
    rw [if_neg e]
    by_cases e3 : m.testBit (j_ix t) = true
    · rw [if_pos e3, if_pos (b1.mpr e3), js_rc7 o, Option.bind_some, c_val o ht, Option.bind_some]
      dsimp only
      have hv : j_val va t = v (j_ix t) := (if_neg e).trans (ha _ h1 e3)
      rw [hv]
      by_cases e2 : v (j_ix t) = x
      · rw [if_pos e2, if_pos e2]
        exact ⟨hm, va, rfl, ha⟩
      · rw [if_neg e2, if_neg e2]
    · have h3 : Int32.ofInt t - 1048576 = Int32.ofNat (j_ix t) := by
        rw [show (1048576 : Int32) = Int32.ofInt 1048576 from rfl, ← Int32.ofInt_sub]
        show _ = Int32.ofInt (j_ix t : Int)
        congr 1
        omega
      rw [if_neg e3, if_neg (fun q => e3 (b1.mp q)), js_r7_6 o, Option.bind_some, js_va o, Option.bind_some, h3, if_pos (by rw [n_in (by omega)]; exact h1), n_nat (by omega)]
      refine ⟨b3, upd va (j_ix t) x, ?_, ?_⟩
      · show some (Int32.ofNat m ||| g_bit t, ag_up _ 44 _) = _
        rw [js_up44, b2]
      · intro i hi hbit
        dsimp only at hbit ⊢
        by_cases ei : i = j_ix t
        · rw [ei, upd_eq, upd_eq]
        · rw [upd_ne ei, upd_ne ei]
          refine ha i hi ?_
          rw [Nat.testBit_or, Nat.testBit_two_pow] at hbit
          simpa [Ne.symm ei] using hbit
/-- an atom of the heap against a row -/
theorem c_fit (o : 75 ≤ g.1) {a : g_A} {b q : Nat} (hb1 : 46 ≤ b) (hb2 : b < g.1) (hc : g.2.2 b = at_cell a) (ht1 : j_tv a.2.2.1) (ht2 : j_tv a.2.2.2) (hq1 : 10 ≤ q) (hq2 : q ≤ 40) {m : Nat} (hm : m < 256) {v : Nat → Int32} (ha : av m va v) : match j_fit a (j_row (rw q)) tr m v with
    | some r => r.1 < 256 ∧ ∃ va', fn_Jg_fit N C 7 (some b) (some q) (Int32.ofNat m) (js g re rd un kn rf tr he mi fa sz ov room rv rw va sk) = some (Int32.ofNat r.1, js g re rd un kn rf tr he mi fa sz ov room rv rw va' sk) ∧ av r.1 va' r.2
    | none => ∃ va', fn_Jg_fit N C 7 (some b) (some q) (Int32.ofNat m) (js g re rd un kn rf tr he mi fa sz ov room rv rw va sk) = some (Int32.ofInt (-1), js g re rd un kn rf tr he mi fa sz ov room rv rw va' sk) ∧ av m va' v := by
  have ea : ∀ va, ag_at (js g re rd un kn rf tr he mi fa sz ov room rv rw va sk) (.ref b) = some (.inr (6, [.int (Int32.ofNat a.1), .int (Int32.ofNat a.2.1), .int (Int32.ofInt a.2.2.1), .int (Int32.ofInt a.2.2.2)])) := fun va => pu_at (by omega) hb2 ((js_big (Or.inl hb1)).trans hc)
  have i0 : md_in (Int32.ofInt 0) 5 = true := by decide
  have i1 : md_in (Int32.ofInt 1) 5 = true := by decide
  have i2 : md_in (Int32.ofInt 2) 5 = true := by decide
  have i3 : md_in (Int32.ofInt 3) 5 = true := by decide
  have i4 : md_in (Int32.ofInt 4) 5 = true := by decide
  have n0 : (Int32.ofInt 0).toNatClampNeg = 0 := by decide
  have n1 : (Int32.ofInt 1).toNatClampNeg = 1 := by decide
  have n2 : (Int32.ofInt 2).toNatClampNeg = 2 := by decide
  have n3 : (Int32.ofInt 3).toNatClampNeg = 3 := by decide
  have n4 : (Int32.ofInt 4).toNatClampNeg = 4 := by decide
  have hj : j_fit a (j_row (rw q)) tr m v = (if (rw q 0 = Int32.ofNat a.1 ∧ rw q 1 = Int32.ofNat a.2.1 ∧ rw q 4 &&& (tr ^^^ (Int32.ofInt (-1))) = 0) then (j_ft a.2.2.1 (rw q 2) m v).bind fun p => j_ft a.2.2.2 (rw q 3) p.1 p.2 else none) := rfl
  rw [hj]
  unfold fn_Jg_fit fn_Jg_fit_0 fn_Jg_fit_33 fn_Jg_fit_72
  simp only [js_rwi o hq1 hq2, Option.bind_some, i0, i1, i4, if_true, n0, n1, n4, pu_gi (k := 0) (ea va) rfl, pu_gi (k := 1) (ea va) rfl, js_g7_10 o]
  by_cases e0 : rw q 0 = Int32.ofNat a.1
  · by_cases e1 : rw q 1 = Int32.ofNat a.2.1
    · by_cases e4 : rw q 4 &&& (tr ^^^ (Int32.ofInt (-1))) = 0
      · rw [if_pos (And.intro e0 (And.intro e1 e4)), if_pos e0, if_pos e1, if_pos e4]
        simp only [pu_gi (k := 2) (ea va) rfl, Option.bind_some, i2, if_true, n2, js_rc7 o]
        have k1 := c_ft (N := N) (C := C) (re := re) (rd := rd) (un := un) (kn := kn) (rf := rf) (tr := tr) (he := he) (mi := mi) (fa := fa) (sz := sz) (ov := ov) (room := room) (rv := rv) (rw := rw) (sk := sk) o ht1 (x := rw q 2) hm ha
        cases f1 : j_ft a.2.2.1 (rw q 2) m v with
        | none =>
          rw [f1] at k1
          simp only at k1
          simp only [k1, Option.bind_some, Option.bind_none, if_true]
          exact ⟨va, rfl, ha⟩
        | some p =>
          rw [f1] at k1
          obtain ⟨hp, va1, k1, ha1⟩ := k1
          have hne : ¬ Int32.ofNat p.1 = Int32.ofInt (-1) := by
            intro q
            have := congrArg Int32.toInt q
            rw [n_toInt (by omega), i_toInt (by decide) (by decide)] at this
            omega
          simp only [k1, Option.bind_some, if_neg hne, pu_gi (k := 3) (ea va1) rfl, js_rwi o hq1 hq2, i3, if_true, n3, js_rc7 o]
          have k2 := c_ft (N := N) (C := C) (re := re) (rd := rd) (un := un) (kn := kn) (rf := rf) (tr := tr) (he := he) (mi := mi) (fa := fa) (sz := sz) (ov := ov) (room := room) (rv := rv) (rw := rw) (sk := sk) o ht2 (x := rw q 3) hp ha1
          cases f2 : j_ft a.2.2.2 (rw q 3) p.1 p.2 with
          | none =>
            rw [f2] at k2
            simp only at k2
            simp only [k2, Option.bind_some]
            refine ⟨va1, rfl, ?_⟩
            intro i hi hbit
            unfold j_ft at f1
            split at f1
            · split at f1
              · cases f1; exact ha1 i hi hbit
              · cases f1
            · split at f1
              · split at f1
                · cases f1; exact ha1 i hi hbit
                · cases f1
              · next hnb =>
                cases f1
                have hne2 : i ≠ j_ix a.2.2.1 := fun q => hnb (q ▸ hbit)
                have := ha1 i hi (by rw [Nat.testBit_or, hbit]; rfl)
                rw [this]
                exact upd_ne hne2
          | some p2 =>
            rw [f2] at k2
            obtain ⟨hp2, va2, k2, ha2⟩ := k2
            simp only [k2, Option.bind_some]
            exact ⟨hp2, va2, rfl, ha2⟩
      · rw [if_neg (show ¬ (rw q 0 = Int32.ofNat a.1 ∧ rw q 1 = Int32.ofNat a.2.1 ∧ rw q 4 &&& (tr ^^^ (Int32.ofInt (-1))) = 0) from fun q => e4 q.2.2), if_pos e0, if_pos e1, if_neg e4]
        exact ⟨va, rfl, ha⟩
    · rw [if_neg (show ¬ (rw q 0 = Int32.ofNat a.1 ∧ rw q 1 = Int32.ofNat a.2.1 ∧ rw q 4 &&& (tr ^^^ (Int32.ofInt (-1))) = 0) from fun q => e1 q.2.1), if_pos e0, if_neg e1]
      exact ⟨va, rfl, ha⟩
  · rw [if_neg (show ¬ (rw q 0 = Int32.ofNat a.1 ∧ rw q 1 = Int32.ofNat a.2.1 ∧ rw q 4 &&& (tr ^^^ (Int32.ofInt (-1))) = 0) from fun q => e0 q.1), if_neg e0]
    exact ⟨va, rfl, ha⟩
end JF
