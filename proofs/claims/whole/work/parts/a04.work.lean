/-! ### The steps are worked out -/
def sk_rep (sk : Nat → Int32) : List Int32 → Prop
  | [] => True
  | x :: st => sk st.length = x ∧ sk_rep sk st
theorem sk_upd {sk : Nat → Int32} : ∀ {st : List Int32} {k : Nat} {x : Int32}, st.length ≤ k → sk_rep sk st → sk_rep (upd sk k x) st
  | [], _, _, _, _ => trivial
  | y :: st, k, x, h, r => ⟨by
      simp only [List.length_cons] at h
      rw [upd_ne (by omega)]; exact r.1, sk_upd (by simp only [List.length_cons] at h; omega) r.2⟩
def j_sv (x : Int) : Prop := (0 ≤ x ∧ j_tv x) ∨ x = -42 ∨ x = -43 ∨ x = -45 ∨ x = -47 ∨ x = -60 ∨ x = -62 ∨ x = -61 ∨ x = -35
/-- how deep the stack is after the steps -/
def wdp : List Int → Nat → Option Nat
  | [], d => some d
  | x :: xs, d => if 0 ≤ x then wdp xs (d + 1) else if d < 2 then none else if g_isc (-x).toNat = true then wdp xs (d - 2) else wdp xs (d - 1)
def j_out (k : Nat) : Int32 := if k = 0 then Int32.ofInt 0 else if k = 1 then Int32.ofInt 1 else Int32.ofInt (-1)
section WK
variable {N : Nat} {C : Nat × Nat} {g : ag_H} {re rd un : Int32} {kn : Nat} {rf tr he mi fa : Int32} {sz : Nat} {ov : Int32} {room : Nat} {rv : Nat → Option Nat} {rw : Nat → Nat → Int32} {va : Nat → Int32}
theorem c_work4 (o : 75 ≤ g.1) {sa : Nat} {l : List Int} {sv v : Nat → Int32} (h1 : 46 ≤ sa) (h2 : sa < g.1) (hc : g.2.2 sa = .inl (0, l.length, .inl sv)) (hr : st_rep sv l) (hl : l.length ≤ 40) : ∀ (xs : List Int) (d i : Nat) (st : List Int32) (sk : Nat → Int32), i + xs.length = l.length → (∀ j x, xs[j]? = some x → l[i + j]? = some x) → xs.length < d → sk_rep sk st → (∀ z, z ∈ st → j_bd z) → st.length + xs.length ≤ 40 → wdp xs st.length ≠ none → (∀ x, x ∈ xs → j_sv x) → (∀ x, x ∈ xs → ¬ x < 1048576 → va (j_ix x) = v (j_ix x) ∧ j_bd (v (j_ix x))) →
    ∃ sk', fn_Jg_work_4 N C 7 d (some sa) (Int32.ofNat st.length) (Int32.ofNat i) (js g re rd un kn rf tr he mi fa sz ov room rv rw va sk) = some (j_out (j_wk v xs st), js g re rd un kn rf tr he mi fa sz ov room rv rw va sk')
  | xs, 0, i, st, sk, hi, hx, hd, hs, hb, hn, hw, hv, hva => absurd hd (by omega)
  | [], d + 1, i, st, sk, hi, hx, hd, hs, hb, hn, hw, hv, hva => by
    have ea : ag_at (js g re rd un kn rf tr he mi fa sz ov room rv rw va sk) (.ref sa) = some (.inl (0, l.length, .inl sv)) := pu_at (by omega) h2 ((js_big (Or.inl h1)).trans hc)
    simp only [List.length_nil, Nat.add_zero] at hi
    refine ⟨sk, ?_⟩
    rw [fe_Jg_work_4, pu_le ea (by decide), Option.bind_some, if_pos (show Int32.ofNat l.length ≤ Int32.ofNat i from n_leT (by omega) (by omega))]
    rfl
  | x :: xs, d + 1, i, st, sk, hi, hx, hd, hs, hb, hn, hw, hv, hva => by
    have ea : ag_at (js g re rd un kn rf tr he mi fa sz ov room rv rw va sk) (.ref sa) = some (.inl (0, l.length, .inl sv)) := pu_at (by omega) h2 ((js_big (Or.inl h1)).trans hc)
    simp only [List.length_cons] at hi hd hn
    have hx0 : sv i = Int32.ofInt x := hr i x (hx 0 x rfl)
    have hsv := hv x List.mem_cons_self
    have hxs : ∀ j y, xs[j]? = some y → l[i + 1 + j]? = some y := fun j y q => by
      have := hx (j + 1) y q
      rw [show i + (j + 1) = i + 1 + j by omega] at this
      exact this
    have hv' : ∀ y, y ∈ xs → j_sv y := fun y q => hv y (List.mem_cons_of_mem _ q)
    have hva' : ∀ y, y ∈ xs → ¬ y < 1048576 → va (j_ix y) = v (j_ix y) ∧ j_bd (v (j_ix y)) := fun y q => hva y (List.mem_cons_of_mem _ q)
    have ad1 : ∀ q : Nat, Int32.ofNat q + Int32.ofInt 1 = Int32.ofNat (q + 1) := fun q => by rw [n_1, n_add]
    have hb0 : -2147483648 ≤ x ∧ x < 2147483648 := by unfold j_sv j_tv at hsv; omega
    rw [fe_Jg_work_4, pu_le ea (by decide), Option.bind_some, if_neg (show ¬ Int32.ofNat l.length ≤ Int32.ofNat i from n_leF (by omega) (by omega)), pu_ai ea, Option.bind_some, if_pos (show md_in (Int32.ofNat i) l.length = true by rw [n_in (by omega)]; omega), n_nat (by omega)]
    simp only [hx0]
    unfold j_wk
    by_cases e : 0 ≤ x
    · have htv : j_tv x := by
        rcases hsv with ⟨_, h⟩ | h
        · exact h
        · omega
      rw [if_neg (show ¬ Int32.ofInt x < 0 by rw [show (0 : Int32) = Int32.ofInt 0 from rfl, i_lt hb0.1 hb0.2 (by decide) (by decide)]; omega), n_c40, if_neg (n_leF (by omega) (by omega)), js_r7_7 o, Option.bind_some, js_rc7 o, Option.bind_some, c_val o htv, Option.bind_some]
      dsimp only
      rw [js_sk o, Option.bind_some, if_pos (show md_in (Int32.ofNat st.length) 40 = true by rw [n_in (by omega)]; omega), n_nat (by omega)]
      unfold fn_Jg_work_133
      rw [ad1, ad1]
      have hval : j_val va x = j_val v x := by
        unfold j_val
        by_cases q : x < 1048576
        · rw [if_pos q, if_pos q]
        · rw [if_neg q, if_neg q, (hva x List.mem_cons_self q).1]
      have hbv : j_bd (j_val v x) := by
        unfold j_val
        by_cases q : x < 1048576
        · rw [if_pos q]
          have : (Int32.ofInt x).toInt = x := i_toInt hb0.1 hb0.2
          unfold j_tv at htv
          exact ⟨by rw [this]; omega, by rw [this]; omega⟩
        · rw [if_neg q]
          exact (hva x List.mem_cons_self q).2
      rw [if_pos e, hval]
      show ∃ sk', fn_Jg_work_4 N C 7 d (some sa) (Int32.ofNat (st.length + 1)) (Int32.ofNat (i + 1)) (ag_up _ 45 _) = _
      rw [js_up45]
      refine c_work4 o h1 h2 hc hr hl xs d (i + 1) (j_val v x :: st) _ (by omega) hxs (by omega) ⟨upd_eq _ _ _, sk_upd (Nat.le_refl _) hs⟩ ?_ (by simp only [List.length_cons]; omega) ?_ hv' hva'
      · intro z hz
        rcases List.mem_cons.mp hz with rfl | hz
        · exact hbv
        · exact hb z hz
      · intro q
        apply hw
        unfold wdp
        rw [if_pos e]
        exact q
    · rw [if_neg e, if_pos (show Int32.ofInt x < 0 by rw [show (0 : Int32) = Int32.ofInt 0 from rfl, i_lt hb0.1 hb0.2 (by decide) (by decide)]; omega)]
      unfold wdp at hw
      rw [if_neg e] at hw
      have h2d : ¬ st.length < 2 := fun q => hw (if_pos q)
      rw [if_neg h2d] at hw
      match st, hs, hb, hn, hw, h2d with
      | [], _, _, _, _, h2d => exact absurd (by decide) h2d
      | [y], _, _, _, _, h2d => exact absurd (show [y].length < 2 by show 1 < 2; omega) h2d
      | rr :: ll :: st, hs, hb, hn, hw, h2d =>
        simp only [List.length_cons] at hn hw
        have hbr := hb rr List.mem_cons_self
        have hbl := hb ll (List.mem_cons_of_mem _ List.mem_cons_self)
        have hbs : ∀ z, z ∈ st → j_bd z := fun z hz => hb z (List.mem_cons_of_mem _ (List.mem_cons_of_mem _ hz))
        obtain ⟨s1, s2, s3⟩ := hs
        simp only [List.length_cons] at s1
        unfold fn_Jg_work_44
        rw [if_neg (show ¬ 0 ≤ Int32.ofInt x by rw [show (0 : Int32) = Int32.ofInt 0 from rfl, i_le (by decide) (by decide) hb0.1 hb0.2]; omega), n_2, if_neg (n_ltF (by simp only [List.length_cons]; omega) (by simp only [List.length_cons]; omega)), js_r7_7 o, Option.bind_some, js_sk o, Option.bind_some]
        have eL : Int32.ofNat (rr :: ll :: st).length - Int32.ofNat 2 = Int32.ofNat st.length := by
          rw [n_sub (by simp only [List.length_cons]; omega)]; simp only [List.length_cons]; rfl
        have eR : Int32.ofNat (rr :: ll :: st).length - Int32.ofInt 1 = Int32.ofNat (st.length + 1) := by
          rw [n_1, n_sub (by simp only [List.length_cons]; omega)]; simp only [List.length_cons]; rfl
        have eD : Int32.ofNat (rr :: ll :: st).length + Int32.ofInt (-2) = Int32.ofNat st.length := by
          show Int32.ofInt ((rr :: ll :: st).length : Int) + Int32.ofInt (-2) = Int32.ofInt (st.length : Int)
          rw [← Int32.ofInt_add]
          congr 1
          simp only [List.length_cons]
          omega
        rw [eL, if_pos (show md_in (Int32.ofNat st.length) 40 = true by rw [n_in (by omega)]; omega), Option.bind_some, js_sk o, Option.bind_some, eR, if_pos (show md_in (Int32.ofNat (st.length + 1)) 40 = true by rw [n_in (by omega)]; omega), n_nat (by omega), n_nat (by omega), eD]
        dsimp only
        rw [s1, s2]
        have hneg : -Int32.ofInt x = Int32.ofNat (-x).toNat := by
          rw [← Int32.ofInt_neg]
          show Int32.ofInt (-x) = Int32.ofInt (((-x).toNat : Nat) : Int)
          congr 1
          omega
        have hs126 : (-x).toNat ≤ 126 := by unfold j_sv at hsv; omega
        rw [hneg, c_isc _ hs126, Option.bind_some]
        dsimp only
        unfold fn_Jg_work_133
        by_cases ec : g_isc (-x).toNat = true
        · rw [if_pos ec] at hw
          have hcs : (-x).toNat = 60 ∨ (-x).toNat = 62 ∨ (-x).toNat = 61 ∨ (-x).toNat = 35 := by
            unfold g_isc at ec
            simp only [Bool.or_eq_true, beq_iff_eq] at ec
            omega
          rw [if_pos ec, if_neg n_ne10, c_cmpj hcs, Option.bind_some]
          dsimp only
          rw [if_pos ec]
          by_cases ek : j_cmp (-x).toNat ll rr = true
          · rw [if_pos ek, if_pos ek, if_neg n_ne10, ad1]
            exact c_work4 o h1 h2 hc hr hl xs d (i + 1) st sk (by omega) hxs (by omega) s3 hbs (by omega) hw hv' hva'
          · rw [if_neg ek, if_neg ek, if_pos n_e00]
            exact ⟨sk, rfl⟩
        · rw [if_neg ec] at hw
          have hcs : (-x).toNat = 42 ∨ (-x).toNat = 43 ∨ (-x).toNat = 45 ∨ (-x).toNat = 47 := by
            unfold g_isc at ec
            simp only [Bool.or_eq_true, beq_iff_eq] at ec
            unfold j_sv at hsv
            omega
          have kc := c_calc (N := N) (C := C) (h := js g re rd un kn rf tr he mi fa sz ov room rv rw va sk) hcs hbl hbr
          rw [if_neg ec, if_pos n_e00, kc.1, Option.bind_some]
          dsimp only
          rw [if_neg ec]
          cases ej : j_calc (-x).toNat ll rr with
          | none =>
            rw [Option.getD_none, if_pos rfl]
            exact ⟨sk, rfl⟩
          | some z =>
            have hz := kc.2 z ej
            have hne : ¬ z = 100000 := by
              rintro rfl
              exact absurd hz.2 (by decide)
            rw [Option.getD_some, if_neg hne, js_r7_7 o, Option.bind_some, js_sk o, Option.bind_some, if_pos (show md_in (Int32.ofNat st.length) 40 = true by rw [n_in (by omega)]; omega), n_nat (by omega), ad1, ad1]
            show ∃ sk', fn_Jg_work_4 N C 7 d (some sa) (Int32.ofNat (st.length + 1)) (Int32.ofNat (i + 1)) (ag_up _ 45 _) = _
            rw [js_up45]
            refine c_work4 o h1 h2 hc hr hl xs d (i + 1) (z :: st) _ (by omega) hxs (by omega) ⟨upd_eq _ _ _, sk_upd (Nat.le_refl _) s3⟩ ?_ (by simp only [List.length_cons]; omega) ?_ hv' hva'
            · intro y hy
              rcases List.mem_cons.mp hy with rfl | hy
              · exact hz
              · exact hbs y hy
            · simp only [List.length_cons]
              exact hw
theorem c_work (o : 75 ≤ g.1) (hN : 60 ≤ N) {sa : Nat} {l : List Int} {sv v sk : Nat → Int32} (h1 : 46 ≤ sa) (h2 : sa < g.1) (hc : g.2.2 sa = .inl (0, l.length, .inl sv)) (hr : st_rep sv l) (hl : l.length ≤ 40) (hw : wdp l 0 ≠ none) (hv : ∀ x, x ∈ l → j_sv x) (hva : ∀ x, x ∈ l → ¬ x < 1048576 → va (j_ix x) = v (j_ix x) ∧ j_bd (v (j_ix x))) :
    ∃ sk', fn_Jg_work N C 7 (some sa) (js g re rd un kn rf tr he mi fa sz ov room rv rw va sk) = some (j_out (j_wk v l []), js g re rd un kn rf tr he mi fa sz ov room rv rw va sk') := by
  unfold fn_Jg_work fn_Jg_work_0
  rw [n_0]
  exact c_work4 o h1 h2 hc hr hl l N 0 [] sk (by omega) (fun j x q => by rw [Nat.zero_add]; exact q) (by omega) trivial (fun z hz => by cases hz) (by simp only [List.length_nil]; omega) hw hv hva
end WK
