/-! ### clear -/
section CLR
variable {N : Nat} {C : Nat × Nat}
theorem al_cl27 {a e n0 : Nat} : ∀ (n d i : Nat) (g : ag_H) (v : Nat → Option Nat), i + n ≤ n0 → n < d → n0 < 1000 → ag_at g (.ref e) = some (.inl (4, n0, .inr (.inr (.inr (.inr v))))) → ∃ v', fn_AL_clear_27 N C a d (some e) (Int32.ofNat (i + n)) (Int32.ofNat i) g = some (0, ag_up g e (.inl (4, n0, .inr (.inr (.inr (.inr v'))))))
  | n, 0, i, g, v, _, hd, _, _ => absurd hd (by omega)
  | 0, d + 1, i, g, v, hi, hd, hn, he => by
    refine ⟨v, ?_⟩
    rw [fe_AL_clear_27, if_pos (n_leT (by omega) (by omega))]
    obtain ⟨h2, h3, h4⟩ := pu_inv he
    have : ag_up g e (.inl (4, n0, .inr (.inr (.inr (.inr v))))) = g := by
      refine Prod.ext rfl (Prod.ext rfl (funext fun q => ?_))
      show (if q = e then _ else g.2.2 q) = g.2.2 q
      by_cases hq : q = e
      · rw [if_pos hq, hq, h4]
      · rw [if_neg hq]
    rw [this]
  | n + 1, d + 1, i, g, v, hi, hd, hn, he => by
    have e1 : ag_at (ag_up g e (.inl (4, n0, .inr (.inr (.inr (.inr (va_up v (Int32.ofNat i).toNatClampNeg none))))))) (.ref e) = some (.inl (4, n0, .inr (.inr (.inr (.inr (va_up v (Int32.ofNat i).toNatClampNeg none)))))) := pu_up_eq _ he
    obtain ⟨v', k⟩ := al_cl27 (a := a) n d (i + 1) _ _ (by omega) (by omega) hn e1
    refine ⟨v', ?_⟩
    rw [fe_AL_clear_27, if_neg (n_leF (by omega) (by omega)), pu_as0 he (by rw [n_in (by omega)]; omega), Option.bind_some, n_1, n_add]
    rw [show i + 1 + n = i + (n + 1) by omega] at k
    rw [k, pu_up_up]
theorem al_clear {α : Type} {P : Nat → Prop} {R : Nat → α → Prop} {g : ag_H} {l : Nat} {xs : List α} (hN : 1000 ≤ N) (r : al_rep P R g l xs) : ∃ g', fn_AL_clear N C l g = some (0, g') ∧ al_rep P R g' l [] ∧ g'.1 = g.1 ∧ g'.2.1 = g.2.1 ∧ ∀ q, ¬ P q → g'.2.2 q = g.2.2 q := by
  obtain ⟨h1, h2, h3, md, h4⟩ := r
  rcases h4 with ⟨h5, h6⟩ | ⟨e, n0, v, e1, e2, e3, e4, e5, e6, e7, e8, e9⟩
  · have ea := pu_at h2 h3 h6
    have ea1 : ag_at (ag_up g l (.inr (11, [Value.ref 1, Value.int (Int32.ofNat 0), Value.int md].set 2 (.int (md + Int32.ofInt 1))))) (.ref l) = some (.inr (11, [.ref 1, .int (Int32.ofNat 0), .int (md + Int32.ofInt 1)])) := pu_up_eq _ ea
    have ea2 : ag_at (ag_up (ag_up g l (.inr (11, [Value.ref 1, Value.int (Int32.ofNat 0), Value.int md].set 2 (.int (md + Int32.ofInt 1))))) l (.inr (11, [Value.ref 1, Value.int (Int32.ofNat 0), Value.int (md + Int32.ofInt 1)].set 1 (.int (Int32.ofInt 0))))) (.ref l) = some (.inr (11, [.ref 1, .int (Int32.ofNat 0), .int (md + Int32.ofInt 1)])) := pu_up_eq _ ea1
    refine ⟨ag_up (ag_up g l (.inr (11, [Value.ref 1, Value.int (Int32.ofNat 0), Value.int md].set 2 (.int (md + Int32.ofInt 1))))) l (.inr (11, [Value.ref 1, Value.int (Int32.ofNat 0), Value.int (md + Int32.ofInt 1)].set 1 (.int (Int32.ofInt 0)))), ?_, ⟨h1, h2, h3, md + Int32.ofInt 1, Or.inl ⟨rfl, (pu_inv ea2).2.2⟩⟩, rfl, rfl, fun q hq => ?_⟩
    · unfold fn_AL_clear fn_AL_clear_0
      rw [pu_gi (k := 2) ea rfl, Option.bind_some, pu_pf ea (Nat.le_of_ble_eq_true rfl) rfl rfl, Option.bind_some, pu_gr (k := 0) ea1 rfl, Option.bind_some, pu_gi (k := 1) ea1 rfl, Option.bind_some, pu_pf ea1 (Nat.le_of_ble_eq_true rfl) rfl rfl, Option.bind_some]
      obtain ⟨N', rfl⟩ : ∃ N', N = N' + 1 := ⟨N - 1, by omega⟩
      rw [fe_AL_clear_27, if_pos (show Int32.ofNat 0 ≤ Int32.ofInt 0 by decide)]
    · have hl : q ≠ l := fun w => hq (w ▸ h1)
      exact (if_neg hl).trans (if_neg hl)
  · have ea := pu_at h2 h3 e4
    have hel : e ≠ l := by
      rintro rfl
      rw [e4] at e5
      cases e5
    have ea1 : ag_at (ag_up g l (.inr (11, [Value.ref e, Value.int (Int32.ofNat xs.length), Value.int md].set 2 (.int (md + Int32.ofInt 1))))) (.ref l) = some (.inr (11, [.ref e, .int (Int32.ofNat xs.length), .int (md + Int32.ofInt 1)])) := pu_up_eq _ ea
    have ea2 : ag_at (ag_up (ag_up g l (.inr (11, [Value.ref e, Value.int (Int32.ofNat xs.length), Value.int md].set 2 (.int (md + Int32.ofInt 1))))) l (.inr (11, [Value.ref e, Value.int (Int32.ofNat xs.length), Value.int (md + Int32.ofInt 1)].set 1 (.int (Int32.ofInt 0))))) (.ref l) = some (.inr (11, [.ref e, .int (Int32.ofNat 0), .int (md + Int32.ofInt 1)])) := pu_up_eq _ ea1
    have ee2 : ag_at (ag_up (ag_up g l (.inr (11, [Value.ref e, Value.int (Int32.ofNat xs.length), Value.int md].set 2 (.int (md + Int32.ofInt 1))))) l (.inr (11, [Value.ref e, Value.int (Int32.ofNat xs.length), Value.int (md + Int32.ofInt 1)].set 1 (.int (Int32.ofInt 0))))) (.ref e) = some (.inl (4, n0, .inr (.inr (.inr (.inr v))))) := (pu_up_ne _ hel).trans ((pu_up_ne _ hel).trans (pu_at e2 e3 e5))
    obtain ⟨v', k⟩ := al_cl27 (N := N) (C := C) (a := l) xs.length N 0 _ v (by omega) (by omega) e8 ee2
    rw [Nat.zero_add] at k
    have ea3 := (pu_up_ne (.inl (4, n0, .inr (.inr (.inr (.inr v'))))) (Ne.symm hel)).trans ea2
    refine ⟨ag_up (ag_up (ag_up g l (.inr (11, [Value.ref e, Value.int (Int32.ofNat xs.length), Value.int md].set 2 (.int (md + Int32.ofInt 1))))) l (.inr (11, [Value.ref e, Value.int (Int32.ofNat xs.length), Value.int (md + Int32.ofInt 1)].set 1 (.int (Int32.ofInt 0))))) e (.inl (4, n0, .inr (.inr (.inr (.inr v'))))), ?_, ⟨h1, h2, h3, md + Int32.ofInt 1, Or.inr ⟨e, n0, v', e1, e2, e3, (pu_inv ea3).2.2, (pu_inv (pu_up_eq (.inl (4, n0, .inr (.inr (.inr (.inr v'))))) ee2)).2.2, Nat.zero_le _, e7, e8, fun i x hx => by cases hx⟩⟩, rfl, rfl, fun q hq => ?_⟩
    · unfold fn_AL_clear fn_AL_clear_0
      rw [pu_gi (k := 2) ea rfl, Option.bind_some, pu_pf ea (Nat.le_of_ble_eq_true rfl) rfl rfl, Option.bind_some, pu_gr (k := 0) ea1 rfl, Option.bind_some, pu_gi (k := 1) ea1 rfl, Option.bind_some, pu_pf ea1 (Nat.le_of_ble_eq_true rfl) rfl rfl, Option.bind_some]
      exact k
    · have hl : q ≠ l := fun w => hq (w ▸ h1)
      have he : q ≠ e := fun w => hq (w ▸ e1)
      exact (if_neg he).trans ((if_neg hl).trans (if_neg hl))
variable {ow : Nat → Nat} {g : ag_H} {lc : Nat → Nat} {ln : Nat} {M : List g_Cl} {Bs : List (List g_Cl)} {D : List g_Cl} {Ts : List w_T} {K most more : Nat} {re : Int32} {rd : Nat} {un : Int32} {Gs : List j_R}
/-- one list alone is changed -/
theorem cI_list {g' : ag_H} {k : Nat} (hk : k = 2 ∨ k = 3 ∨ k = 4 ∨ k = 5) (hn : g.1 ≤ g'.1) (hq : ∀ q, ow q ≠ k → g'.2.2 q = g.2.2 q) {D' : List g_Cl} {Bs' : List (List g_Cl)} {Ts' : List w_T} (h : cI ow g lc ln M Bs D Ts K most more re rd un Gs) (hD : (k = 2 → al_rep (own ow 2) (cl_rep (own ow 0) g) g' 47 D') ∧ (k ≠ 2 → D' = D)) (hB : (k = 3 → al_rep (own ow 3) (bl_rep (own ow 0) g) g' 48 Bs') ∧ (k ≠ 3 → Bs' = Bs)) (hT : (k = 4 → al_rep (own ow 4) (tk_rep (own ow 0) g) g' 49 Ts') ∧ (k ≠ 4 → Ts' = Ts)) (h5 : k ≠ 5) : cI ow g' lc ln M Bs' D' Ts' K most more re rd un Gs := by
  obtain ⟨h1, ⟨p, f, l1, l2, l3⟩, ⟨kk, nv, bv, st, r1, r2⟩, hJ, hNn, mk, hG, o1, ⟨o2, o3⟩, o4, o5, o6, o7, o8, o9, lm, o10, o11⟩ := h
  have lo : ∀ q, q < 46 ∨ (52 ≤ q ∧ q < 75) → g'.2.2 q = g.2.2 q := fun q hx => hq q (fun e => by have := o1 q (by omega); omega)
  have qk : ∀ j, j ≠ k → ∀ q, own ow j q → q < g.1 → g'.2.2 q = g.2.2 q := fun j hj q hx _ => hq q (fun e => by have hx : ow q = j := hx; omega)
  have q0 := qk 0 (by omega)
  refine ⟨Nat.le_trans h1 hn, ⟨p, f, (lo 3 (by omega)).trans l1, (lo 4 (by omega)).trans l2, l3⟩, ⟨kk, nv, bv, st, (lo 5 (by omega)).trans r1, (lo 6 (by omega)).trans r2⟩, cJ_ext (fun q a b => lo q (by omega)) hJ, cN_ext (fun q a b => lo q (by omega)) hNn, mk, (lo 2 (by omega)).trans hG, o1, ⟨o2, (q0 46 o2 (by omega)).trans o3⟩, ?_, ?_, ?_, o7, o8, Nat.lt_of_lt_of_le o9 hn, lm, (q0 mk o7 o9).trans o10, al_rep_mono (fun _ h _ => h) (fun _ _ _ h => cl_ext hn q0 h) (al_rep_ext hn (qk 5 (by omega)) o11)⟩
  · by_cases e : k = 2
    · exact al_rep_mono (fun _ h _ => h) (fun _ _ _ h => cl_ext hn q0 h) (hD.1 e)
    · rw [hD.2 e]
      exact al_rep_mono (fun _ h _ => h) (fun _ _ _ h => cl_ext hn q0 h) (al_rep_ext hn (qk 2 (by omega)) o4)
  · by_cases e : k = 3
    · exact al_rep_mono (fun _ h _ => h) (fun _ _ _ h => bl_ext hn q0 h) (hB.1 e)
    · rw [hB.2 e]
      exact al_rep_mono (fun _ h _ => h) (fun _ _ _ h => bl_ext hn q0 h) (al_rep_ext hn (qk 3 (by omega)) o5)
  · by_cases e : k = 4
    · exact al_rep_mono (fun _ h _ => h) (fun _ _ _ h => tk_ext hn q0 h) (hT.1 e)
    · rw [hT.2 e]
      exact al_rep_mono (fun _ h _ => h) (fun _ _ _ h => tk_ext hn q0 h) (al_rep_ext hn (qk 4 (by omega)) o6)
theorem c_clear (hN : 1000 ≤ N) (h : cI ow g lc ln M Bs D Ts K most more re rd un Gs) : ∃ g', fn_GC_clear N C 2 g = some (0, g') ∧ c_fr g g' 0 0 ∧ cI ow g' lc ln M Bs [] Ts K most more re rd un Gs := by
  have h0 := h
  obtain ⟨h1, -, -, -, -, mk, hG, o1, ⟨o2, o3⟩, o4, -⟩ := h
  obtain ⟨g', k1, k2, k3, k4, k5⟩ := al_clear (N := N) (C := C) hN o4
  have hq : ∀ q, ow q ≠ 2 → g'.2.2 q = g.2.2 q := fun q hq => k5 q hq
  refine ⟨g', ?_, ⟨by omega, by omega, by omega, by omega, hq 74 (fun e => by have := o1 74 (by omega); omega)⟩, cI_list (k := 2) (Or.inl rfl) (by omega) hq h0 ⟨fun _ => k2, fun q => absurd rfl q⟩ ⟨fun q => absurd q (by decide), fun _ => rfl⟩ ⟨fun q => absurd q (by decide), fun _ => rfl⟩ (by decide)⟩
  unfold fn_GC_clear fn_GC_clear_0
  have e2 : ag_at g (.ref 2) = _ := pu_at (by omega) (by omega) hG
  rw [pu_gr (k := 3) e2 rfl, Option.bind_some, pu_gr (k := 0) (pu_at (q := 46) (by omega) (by omega) o3) rfl, Option.bind_some, al_rep_rc o4, Option.bind_some, k1, Option.bind_some]
end CLR
