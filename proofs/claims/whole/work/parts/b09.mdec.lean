/-! ### The reference's verdict -/
abbrev d_S : Type := Bool × Nat × Int32 × Bool
def d_ful (f : j_F) (k : Nat) : Bool := f.1 && (decide (k = 2) || !f.2.1)
def d_1 (F : List j_R) (z : d_S) (q : Nat × g_Cl) : d_S := if q.2.1 = 0 ∨ 4 ≤ q.2.1 then z else if q.2.1 = 1 then (z.1 || (q_fl F q).2.2, z.2) else (z.1 || (q_fl F q).2.2, z.2.1 + 1, (if d_ful (q_fl F q) q.2.1 = false ∧ z.2.1 < 31 then z.2.2.1 ||| (Int32.ofInt 1 <<< (Int32.ofNat z.2.1 &&& 31)) else z.2.2.1), z.2.2.2 || !d_ful (q_fl F q) q.2.1)
def d_m5 : Int32 := (Int8.ofInt (-5)).toInt32
def d_m6 : Int32 := (Int8.ofInt (-6)).toInt32
def d_pol (F : List j_R) : List (Nat × g_Cl) → Nat → Bool × Int32
  | [], _ => (false, d_m6)
  | q :: qs, n => if q.2.1 ≤ 3 then d_pol F qs n else if (q_fl F q).2.2 = true ∨ (q_fl F q).1 = true then ((q_fl F q).2.2, if (q_fl F q).1 = true then (if q.2.1 = 4 then Int32.ofNat n else d_m5) else d_m6) else d_pol F qs (n + 1)
theorem j_b0 (b : Bool) : j_b b = 0 ↔ b = false := by cases b <;> decide
section MDE
variable {N : Nat} {S : MS} {most : Nat} {Q : List (Nat × g_Cl)}
theorem m_d116 (k14 : Int32 → Int32 → Int32 → Int32 → MS → Option (Int32 × MS)) {x1 x4 : Int32} {n : Nat} {x3 s : Bool} {fc od rn : Nat} {uf an ho fs al : Int32} {a17 a18 a19 a20 a21 : Nat → Int32} (hn : n < 1000) : fn_Md_decide_116 N k14 x1 (Int32.ofNat n) (j_b x3) x4 (j_b s) (ks S fc od rn uf an ho fs al a17 a18 a19 a20 a21) = k14 x1 (Int32.ofNat (n + 1)) (j_b (x3 || !s)) (x4 + Int32.ofInt 1) (ks S fc od rn (if s = false ∧ n < 31 then uf ||| (Int32.ofInt 1 <<< (Int32.ofNat n &&& 31)) else uf) an ho fs al a17 a18 a19 a20 a21) := by
  have ad1 : ∀ q : Nat, Int32.ofNat q + Int32.ofInt 1 = Int32.ofNat (q + 1) := fun q => by rw [n_1, n_add]
  unfold fn_Md_decide_116 fn_Md_decide_141 fn_Md_decide_145 fn_Md_decide_157 fn_Md_decide_162 fn_Md_decide_166
  simp only [ks_g37, ks_u37, ks_pr, ad1]
  have e31 : (Int8.ofInt (31)).toInt32 = Int32.ofNat 31 := n_c31
  rw [e31]
  cases s with
  | true =>
    rw [if_neg (show ¬ j_b true = 0 from n_ne10), if_neg (show ¬ (true = false ∧ n < 31) from fun q => absurd q.1 (by decide)), if_neg (show ¬ j_b true = 0 from n_ne10)]
    cases x3 with
    | true => rw [if_neg (show ¬ j_b true = 0 from n_ne10)]; rfl
    | false => rw [if_pos (show j_b false = 0 from n_e00)]; rfl
  | false =>
    rw [if_pos (show j_b false = 0 from n_e00)]
    by_cases e : n < 31
    · rw [if_neg (n_leF e (by omega)), if_pos (And.intro rfl e), if_pos (show j_b false = 0 from n_e00)]
      cases x3 with
      | true => rw [if_neg (show ¬ j_b true = 0 from n_ne10)]; rfl
      | false => rw [if_pos (show j_b false = 0 from n_e00)]; rfl
    · rw [if_pos (n_leT (by omega) (by omega)), if_neg (show ¬ (false = false ∧ n < 31) from fun q => e q.2), if_pos (show j_b false = 0 from n_e00)]
      cases x3 with
      | true => rw [if_neg (show ¬ j_b true = 0 from n_ne10)]; rfl
      | false => rw [if_pos (show j_b false = 0 from n_e00)]; rfl
theorem m_d14 (hN : 60 ≤ N) (hN2 : 30000 ≤ N) (hmo : most ≤ 30) (h7 : S.1 7 = Int32.ofNat most) (hQ : q_rep S Q) {w : j_W} (hro : rows_ok w) : ∀ (n d c : Nat) (z : d_S) (fc rn : Nat) (an ho fs al : Int32) (a17 a18 a19 a20 a21 : Nat → Int32), c + n = Q.length → n < d → z.2.1 ≤ c → m_rp a17 fc most w →
    ∃ (an' ho' fs' al' : Int32) (a17' a18' a19' a20' a21' : Nat → Int32), fn_Md_decide_14 N d (j_b z.1) (Int32.ofNat z.2.1) (j_b z.2.2.2) (Int32.ofNat c) (ks S fc w.1.length rn z.2.2.1 an ho fs al a17 a18 a19 a20 a21) = fn_Md_decide_182 N N (j_b ((Q.drop c).foldl (d_1 w.1) z).1) (j_b ((Q.drop c).foldl (d_1 w.1) z).2.2.2) (Int32.ofInt 0) ((Int8.ofInt (-6)).toInt32) (Int32.ofInt 0) (ks S fc w.1.length rn ((Q.drop c).foldl (d_1 w.1) z).2.2.1 an' ho' fs' al' a17' a18' a19' a20' a21') ∧ m_rp a17' fc most w := by
  have ad1 : ∀ q : Nat, Int32.ofNat q + Int32.ofInt 1 = Int32.ofNat (q + 1) := fun q => by rw [n_1, n_add]
  have hQ30 := hQ.2.1
  intro n
  induction n with
  | zero =>
    intro d c z fc rn an ho fs al a17 a18 a19 a20 a21 hc hd hz hrp
    obtain ⟨d, rfl⟩ : ∃ d', d = d' + 1 := ⟨d - 1, by omega⟩
    rw [List.drop_eq_nil_of_le (by omega)]
    refine ⟨an, ho, fs, al, a17, a18, a19, a20, a21, ?_, hrp⟩
    rw [fe_Md_decide_14, ks_g15, hQ.1, if_pos (n_leT (by omega) (by omega))]
    rfl
  | succ n ih =>
    intro d c z fc rn an ho fs al a17 a18 a19 a20 a21 hc hd hz hrp
    obtain ⟨d, rfl⟩ : ∃ d', d = d' + 1 := ⟨d - 1, by omega⟩
    have hlt : c < Q.length := by omega
    have hdr : Q.drop c = Q[c] :: Q.drop (c + 1) := List.drop_eq_getElem_cons hlt
    obtain ⟨q1, q2, q3⟩ := hQ.2.2 c Q[c].1 Q[c].2 (List.getElem?_eq_getElem hlt)
    have hk5 := q3.2.1
    have i9 : md_in (Int32.ofNat c) (md_len 9) = true := by rw [n_in (by omega), ml9]; omega
    rw [hdr, List.foldl_cons, fe_Md_decide_14, ks_g15, hQ.1, if_neg (n_leF (by omega) (by omega)), if_pos i9, if_pos i9, ks_h9, n_nat (by omega), q2.1]
    by_cases e0 : Q[c].2.1 = 0
    · have e1 : d_1 w.1 z Q[c] = z := if_pos (Or.inl e0)
      rw [if_pos (show Int32.ofNat Q[c].2.1 ≤ 0 from n_leT (b := 0) (by omega) (by omega)), e1]
      unfold fn_Md_decide_166
      rw [ad1]
      exact ih d (c + 1) z fc rn an ho fs al a17 a18 a19 a20 a21 (by omega) (by omega) (by omega) hrp
    · rw [if_neg (show ¬ Int32.ofNat Q[c].2.1 ≤ 0 from n_leF (b := 0) (by omega) (by omega)), n_4]
      by_cases e4 : 4 ≤ Q[c].2.1
      · have e1 : d_1 w.1 z Q[c] = z := if_pos (Or.inr e4)
        rw [if_pos (n_leT e4 (by omega)), e1]
        unfold fn_Md_decide_166
        rw [ad1]
        exact ih d (c + 1) z fc rn an ho fs al a17 a18 a19 a20 a21 (by omega) (by omega) (by omega) hrp
      · rw [if_neg (n_leF (by omega) (by omega))]
        obtain ⟨fc1, b17, b18, b19, b20, b21, k1, k2, k3⟩ := m_bindings (N := N) (S := S) (rn := rn) (uf := z.2.2.1) (an := an) (ho := ho) (fs := fs) (al := al) (a18 := a18) (a19 := a19) (a20 := a20) (a21 := a21) hN hN2 (show c ≤ 30 by omega) hmo h7 q1 q2 q3.1 (q3.2.2.2.1 (by omega)) (fun y hy => (q3.2.2.2.2.2.1 y hy).1) q3.2.2.2.2.2.2.1 (F := w.1) hro (add := false) (fun q => by cases q) hrp ⟨Nat.le_refl _, fun _ _ h => h⟩
        have hfl : m_Fl Q[c].2 (false, false, false) (m_L Q[c].2 Q[c].1 w.1) = q_fl w.1 Q[c] := rfl
        have han := m_Fl_an Q[c].2 (m_L Q[c].2 Q[c].1 w.1) f000
        rw [show m_Fl Q[c].2 f000 (m_L Q[c].2 Q[c].1 w.1) = q_fl w.1 Q[c] from rfl, show (f000.1 || f000.2.1) = false from rfl, Bool.false_or] at han
        rw [hfl, ← han] at k1
        have k2 : m_rp b17 fc1 most w := k2
        have hfc1 : fc1 = fc := by rw [k2.2.2.1, hrp.2.2.1]
        rw [hfc1] at k1 k2
        have k1' : fn_Md_bindings N (Int32.ofNat c) (Int32.ofInt 0) (ks S fc w.1.length rn z.2.2.1 an ho fs al a17 a18 a19 a20 a21) = _ := k1
        rw [k1', Option.bind_some]
        dsimp only
        rw [ks_g44]
        unfold fn_Md_decide_62
        generalize hG : q_fl w.1 Q[c] = fl
        have hd67 : (if j_b z.1 = 0 then (if j_b fl.2.2 = 0 then fn_Md_decide_67 N (fn_Md_decide_14 N d) (Int32.ofNat z.2.1) (j_b z.2.2.2) (Int32.ofNat c) (Int32.ofInt 0) (ks S fc w.1.length rn z.2.2.1 (j_b (fl.1 || fl.2.1)) (j_b fl.1) (j_b fl.2.2) (j_b (!fl.2.1)) b17 b18 b19 b20 b21) else fn_Md_decide_67 N (fn_Md_decide_14 N d) (Int32.ofNat z.2.1) (j_b z.2.2.2) (Int32.ofNat c) (Int32.ofInt 1) (ks S fc w.1.length rn z.2.2.1 (j_b (fl.1 || fl.2.1)) (j_b fl.1) (j_b fl.2.2) (j_b (!fl.2.1)) b17 b18 b19 b20 b21)) else fn_Md_decide_67 N (fn_Md_decide_14 N d) (Int32.ofNat z.2.1) (j_b z.2.2.2) (Int32.ofNat c) (Int32.ofInt 1) (ks S fc w.1.length rn z.2.2.1 (j_b (fl.1 || fl.2.1)) (j_b fl.1) (j_b fl.2.2) (j_b (!fl.2.1)) b17 b18 b19 b20 b21)) = fn_Md_decide_67 N (fn_Md_decide_14 N d) (Int32.ofNat z.2.1) (j_b z.2.2.2) (Int32.ofNat c) (j_b (z.1 || fl.2.2)) (ks S fc w.1.length rn z.2.2.1 (j_b (fl.1 || fl.2.1)) (j_b fl.1) (j_b fl.2.2) (j_b (!fl.2.1)) b17 b18 b19 b20 b21) := by
          cases z.1 <;> cases fl.2.2 <;> rfl
        rw [hd67]
        unfold fn_Md_decide_67
        rw [if_pos i9, if_pos i9, ks_h9, n_nat (by omega), q2.1]
        by_cases e5 : Q[c].2.1 = 1
        · have e1 : d_1 w.1 z Q[c] = (z.1 || fl.2.2, z.2) := by
            unfold d_1
            rw [if_neg (by omega), if_pos e5, hG]
          rw [n_1, if_pos (n_leT (by omega) (by omega)), e1]
          unfold fn_Md_decide_166
          rw [ad1]
          exact ih d (c + 1) (z.1 || fl.2.2, z.2) fc rn _ _ _ _ b17 b18 b19 b20 b21 (by omega) (by omega) (show z.2.1 ≤ c + 1 by omega) k2
        · have e1 : d_1 w.1 z Q[c] = (z.1 || fl.2.2, z.2.1 + 1, (if d_ful fl Q[c].2.1 = false ∧ z.2.1 < 31 then z.2.2.1 ||| (Int32.ofInt 1 <<< (Int32.ofNat z.2.1 &&& 31)) else z.2.2.1), z.2.2.2 || !d_ful fl Q[c].2.1) := by
            unfold d_1
            rw [if_neg (by omega), if_neg e5, hG]
          rw [if_neg (show ¬ Int32.ofNat Q[c].2.1 ≤ Int32.ofInt 1 by rw [n_1]; exact n_leF (by omega) (by omega)), e1]
          have hs : (if Int32.ofNat Q[c].2.1 = Int32.ofInt 2 then fn_Md_decide_116 N (fn_Md_decide_14 N d) (j_b (z.1 || fl.2.2)) (Int32.ofNat z.2.1) (j_b z.2.2.2) (Int32.ofNat c) ((ks S fc w.1.length rn z.2.2.1 (j_b (fl.1 || fl.2.1)) (j_b fl.1) (j_b fl.2.2) (j_b (!fl.2.1)) b17 b18 b19 b20 b21).1 43) (ks S fc w.1.length rn z.2.2.1 (j_b (fl.1 || fl.2.1)) (j_b fl.1) (j_b fl.2.2) (j_b (!fl.2.1)) b17 b18 b19 b20 b21) else (if (ks S fc w.1.length rn z.2.2.1 (j_b (fl.1 || fl.2.1)) (j_b fl.1) (j_b fl.2.2) (j_b (!fl.2.1)) b17 b18 b19 b20 b21).1 42 = 0 then fn_Md_decide_115 N (fn_Md_decide_14 N d) (j_b (z.1 || fl.2.2)) (Int32.ofNat z.2.1) (j_b z.2.2.2) (Int32.ofNat c) (ks S fc w.1.length rn z.2.2.1 (j_b (fl.1 || fl.2.1)) (j_b fl.1) (j_b fl.2.2) (j_b (!fl.2.1)) b17 b18 b19 b20 b21) else (if (ks S fc w.1.length rn z.2.2.1 (j_b (fl.1 || fl.2.1)) (j_b fl.1) (j_b fl.2.2) (j_b (!fl.2.1)) b17 b18 b19 b20 b21).1 45 = 0 then fn_Md_decide_115 N (fn_Md_decide_14 N d) (j_b (z.1 || fl.2.2)) (Int32.ofNat z.2.1) (j_b z.2.2.2) (Int32.ofNat c) (ks S fc w.1.length rn z.2.2.1 (j_b (fl.1 || fl.2.1)) (j_b fl.1) (j_b fl.2.2) (j_b (!fl.2.1)) b17 b18 b19 b20 b21) else fn_Md_decide_116 N (fn_Md_decide_14 N d) (j_b (z.1 || fl.2.2)) (Int32.ofNat z.2.1) (j_b z.2.2.2) (Int32.ofNat c) (Int32.ofInt 1) (ks S fc w.1.length rn z.2.2.1 (j_b (fl.1 || fl.2.1)) (j_b fl.1) (j_b fl.2.2) (j_b (!fl.2.1)) b17 b18 b19 b20 b21)))) = fn_Md_decide_116 N (fn_Md_decide_14 N d) (j_b (z.1 || fl.2.2)) (Int32.ofNat z.2.1) (j_b z.2.2.2) (Int32.ofNat c) (j_b (d_ful fl Q[c].2.1)) (ks S fc w.1.length rn z.2.2.1 (j_b (fl.1 || fl.2.1)) (j_b fl.1) (j_b fl.2.2) (j_b (!fl.2.1)) b17 b18 b19 b20 b21) := by
            unfold fn_Md_decide_115 d_ful
            rw [ks_g42, ks_g43, ks_g45]
            by_cases e6 : Q[c].2.1 = 2
            · rw [if_pos (show Int32.ofNat Q[c].2.1 = Int32.ofInt 2 by rw [e6]; rfl), decide_eq_true e6]
              cases fl.1 <;> rfl
            · rw [if_neg (show ¬ Int32.ofNat Q[c].2.1 = Int32.ofInt 2 by rw [n_2]; exact n_eqF e6 (by omega) (by omega)), decide_eq_false e6]
              cases fl.1 <;> cases fl.2.1 <;> rfl
          rw [hs, m_d116 (fn_Md_decide_14 N d) (by omega), ad1]
          exact ih d (c + 1) (z.1 || fl.2.2, z.2.1 + 1, (if d_ful fl Q[c].2.1 = false ∧ z.2.1 < 31 then z.2.2.1 ||| (Int32.ofInt 1 <<< (Int32.ofNat z.2.1 &&& 31)) else z.2.2.1), z.2.2.2 || !d_ful fl Q[c].2.1) fc rn _ _ _ _ b17 b18 b19 b20 b21 (by omega) (by omega) (show z.2.1 + 1 ≤ c + 1 by omega) k2
/-- the policies -/
theorem m_d182s {d c : Nat} {x1 x3 x4 x5 : Int32} {T : MS} (h : ¬ x5 = (Int8.ofInt (-6)).toInt32 ∨ ¬ x1 = 0) : fn_Md_decide_182 N (d + 1) x1 x3 x4 x5 (Int32.ofNat c) T = fn_Md_decide_266 N x1 x3 x5 T := by
  rw [fe_Md_decide_182]
  by_cases e : T.1 15 ≤ Int32.ofNat c
  · rw [if_pos e]
  · rw [if_neg e]
    by_cases e2 : x5 = (Int8.ofInt (-6)).toInt32
    · rw [if_pos e2, if_neg (by rcases h with h | h; exact absurd e2 h; exact h)]
    · rw [if_neg e2]
theorem m_d182 (hN : 60 ≤ N) (hN2 : 30000 ≤ N) (hmo : most ≤ 30) (h7 : S.1 7 = Int32.ofNat most) (hQ : q_rep S Q) {w : j_W} (hro : rows_ok w) : ∀ (n d c m : Nat) (x3 : Int32) (fc rn : Nat) (uf an ho fs al : Int32) (a17 a18 a19 a20 a21 : Nat → Int32), c + n = Q.length → n + 1 < d → m ≤ c → m_rp a17 fc most w →
    ∃ (an' ho' fs' al' : Int32) (a17' a18' a19' a20' a21' : Nat → Int32), fn_Md_decide_182 N d (Int32.ofInt 0) x3 (Int32.ofNat m) ((Int8.ofInt (-6)).toInt32) (Int32.ofNat c) (ks S fc w.1.length rn uf an ho fs al a17 a18 a19 a20 a21) = fn_Md_decide_266 N (j_b (d_pol w.1 (Q.drop c) m).1) x3 (d_pol w.1 (Q.drop c) m).2 (ks S fc w.1.length rn uf an' ho' fs' al' a17' a18' a19' a20' a21') ∧ m_rp a17' fc most w := by
  have ad1 : ∀ q : Nat, Int32.ofNat q + Int32.ofInt 1 = Int32.ofNat (q + 1) := fun q => by rw [n_1, n_add]
  have hQ30 := hQ.2.1
  intro n
  induction n with
  | zero =>
    intro d c m x3 fc rn uf an ho fs al a17 a18 a19 a20 a21 hc hd hm hrp
    obtain ⟨d, rfl⟩ : ∃ d', d = d' + 1 := ⟨d - 1, by omega⟩
    rw [List.drop_eq_nil_of_le (by omega)]
    refine ⟨an, ho, fs, al, a17, a18, a19, a20, a21, ?_, hrp⟩
    rw [fe_Md_decide_182, ks_g15, hQ.1, if_pos (n_leT (by omega) (by omega))]
    rfl
  | succ n ih =>
    intro d c m x3 fc rn uf an ho fs al a17 a18 a19 a20 a21 hc hd hm hrp
    obtain ⟨d, rfl⟩ : ∃ d', d = d' + 1 := ⟨d - 1, by omega⟩
    have hlt : c < Q.length := by omega
    have hdr : Q.drop c = Q[c] :: Q.drop (c + 1) := List.drop_eq_getElem_cons hlt
    obtain ⟨q1, q2, q3⟩ := hQ.2.2 c Q[c].1 Q[c].2 (List.getElem?_eq_getElem hlt)
    have hk5 := q3.2.1
    have i9 : md_in (Int32.ofNat c) (md_len 9) = true := by rw [n_in (by omega), ml9]; omega
    rw [hdr, fe_Md_decide_182, ks_g15, hQ.1, if_neg (n_leF (by omega) (by omega)), if_pos rfl, if_pos n_e00, if_pos i9, ks_h9, n_nat (by omega), q2.1, n_3]
    unfold d_pol
    by_cases e3 : Q[c].2.1 ≤ 3
    · rw [if_pos (n_leT e3 (by omega)), if_pos e3]
      unfold fn_Md_decide_260
      rw [ad1]
      exact ih d (c + 1) m x3 fc rn uf an ho fs al a17 a18 a19 a20 a21 (by omega) (by omega) (by omega) hrp
    · rw [if_neg (n_leF (by omega) (by omega)), if_neg e3]
      obtain ⟨fc1, b17, b18, b19, b20, b21, k1, k2, k3⟩ := m_bindings (N := N) (S := S) (rn := rn) (uf := uf) (an := an) (ho := ho) (fs := fs) (al := al) (a18 := a18) (a19 := a19) (a20 := a20) (a21 := a21) hN hN2 (show c ≤ 30 by omega) hmo h7 q1 q2 q3.1 (q3.2.2.2.1 (by omega)) (fun y hy => (q3.2.2.2.2.2.1 y hy).1) q3.2.2.2.2.2.2.1 (F := w.1) hro (add := false) (fun q => by cases q) hrp ⟨Nat.le_refl _, fun _ _ h => h⟩
      have hfl : m_Fl Q[c].2 (false, false, false) (m_L Q[c].2 Q[c].1 w.1) = q_fl w.1 Q[c] := rfl
      rw [hfl] at k1
      have k2 : m_rp b17 fc1 most w := k2
      have hfc1 : fc1 = fc := by rw [k2.2.2.1, hrp.2.2.1]
      rw [hfc1] at k1 k2
      have k1' : fn_Md_bindings N (Int32.ofNat c) (Int32.ofInt 0) (ks S fc w.1.length rn uf an ho fs al a17 a18 a19 a20 a21) = _ := k1
      rw [k1', Option.bind_some]
      dsimp only
      rw [if_pos i9, ks_g43, ks_g44, ks_h9, q2.1]
      unfold fn_Md_decide_255 fn_Md_decide_260
      rw [ad1, ad1]
      generalize hG : q_fl w.1 Q[c] = fl
      obtain ⟨d, rfl⟩ : ∃ d', d = d' + 1 := ⟨d - 1, by omega⟩
      have hm6 : ¬ Int32.ofNat m = (Int8.ofInt (-6)).toInt32 := by
        intro q
        have := congrArg Int32.toInt q
        rw [n_toInt (by omega), show ((Int8.ofInt (-6)).toInt32).toInt = -6 by decide] at this
        omega
      cases h1 : fl.1 with
      | false =>
        rw [if_pos (show j_b false = 0 from n_e00)]
        cases h2 : fl.2.2 with
        | true =>
          rw [if_pos (Or.inl rfl), if_neg (by decide), m_d182s (Or.inr (show ¬ j_b true = 0 from n_ne10))]
          exact ⟨_, _, _, _, b17, b18, b19, b20, b21, rfl, k2⟩
        | false =>
          rw [if_neg (by decide)]
          exact ih (d + 1) (c + 1) (m + 1) x3 fc rn uf _ _ _ _ b17 b18 b19 b20 b21 (by omega) (by omega) (by omega) k2
      | true =>
        rw [if_neg (show ¬ j_b true = 0 from n_ne10), if_pos (Or.inr rfl), if_pos rfl]
        by_cases e4 : Q[c].2.1 = 4
        · rw [if_pos (show Int32.ofNat Q[c].2.1 = Int32.ofInt 4 by rw [e4]; rfl), if_pos e4, m_d182s (Or.inl hm6)]
          exact ⟨_, _, _, _, b17, b18, b19, b20, b21, rfl, k2⟩
        · rw [if_neg (show ¬ Int32.ofNat Q[c].2.1 = Int32.ofInt 4 by rw [n_4]; exact n_eqF e4 (by omega) (by omega)), if_neg e4, m_d182s (Or.inl (by decide))]
          exact ⟨_, _, _, _, b17, b18, b19, b20, b21, rfl, k2⟩
def d_ans (z : d_S) (r : Bool × Int32) : Int32 := if z.1 = true then (Int8.ofInt (-3)).toInt32 else if r.1 = true then (Int8.ofInt (-3)).toInt32 else if z.2.2.2 = true then (Int8.ofInt (-4)).toInt32 else r.2
theorem m_d266 {b x3 : Bool} {x5 : Int32} {fc od rn : Nat} {uf an ho fs al : Int32} {a17 a18 a19 a20 a21 : Nat → Int32} : fn_Md_decide_266 N (j_b b) (j_b x3) x5 (ks S fc od rn uf an ho fs al a17 a18 a19 a20 a21) = some (if b = true then (Int8.ofInt (-3)).toInt32 else if x3 = true then (Int8.ofInt (-4)).toInt32 else x5, ks S fc od rn (if (if b = true then (Int8.ofInt (-3)).toInt32 else if x3 = true then (Int8.ofInt (-4)).toInt32 else x5) = (Int8.ofInt (-4)).toInt32 then uf else Int32.ofInt 0) an ho fs al a17 a18 a19 a20 a21) := by
  have h286 : ∀ s, fn_Md_decide_286 N s (ks S fc od rn uf an ho fs al a17 a18 a19 a20 a21) = some (s, ks S fc od rn (if s = (Int8.ofInt (-4)).toInt32 then uf else Int32.ofInt 0) an ho fs al a17 a18 a19 a20 a21) := by
    intro s
    unfold fn_Md_decide_286 fn_Md_decide_304
    by_cases e : s = (Int8.ofInt (-4)).toInt32
    · rw [if_pos e, if_pos e, ks_g37, ks_u37, ks_pr]
    · rw [if_neg e, if_neg e, ks_u37, ks_pr]
  unfold fn_Md_decide_266
  rw [h286, h286, h286]
  cases b <;> cases x3 <;> rfl
theorem m_decide (hN : 60 ≤ N) (hN2 : 30000 ≤ N) (hmo : most ≤ 30) (h7 : S.1 7 = Int32.ofNat most) (hQ : q_rep S Q) {w : j_W} (hro : rows_ok w) {fc rn : Nat} {uf an ho fs al : Int32} {a17 a18 a19 a20 a21 : Nat → Int32} (hrp : m_rp a17 fc most w) :
    ∃ (an' ho' fs' al' : Int32) (a17' a18' a19' a20' a21' : Nat → Int32), fn_Md_decide N (ks S fc w.1.length rn uf an ho fs al a17 a18 a19 a20 a21) = some (d_ans (Q.foldl (d_1 w.1) (false, 0, Int32.ofInt 0, false)) (d_pol w.1 Q 0), ks S fc w.1.length rn (if d_ans (Q.foldl (d_1 w.1) (false, 0, Int32.ofInt 0, false)) (d_pol w.1 Q 0) = (Int8.ofInt (-4)).toInt32 then (Q.foldl (d_1 w.1) (false, 0, Int32.ofInt 0, false)).2.2.1 else Int32.ofInt 0) an' ho' fs' al' a17' a18' a19' a20' a21') ∧ m_rp a17' fc most w := by
  have hQ30 := hQ.2.1
  obtain ⟨an1, ho1, fs1, al1, b17, b18, b19, b20, b21, k1, k2⟩ := m_d14 (N := N) (S := S) hN hN2 hmo h7 hQ hro Q.length N 0 (false, 0, Int32.ofInt 0, false) fc rn an ho fs al a17 a18 a19 a20 a21 (by omega) (by omega) (Nat.le_refl _) hrp
  rw [List.drop_zero] at k1
  have e0 : fn_Md_decide N (ks S fc w.1.length rn uf an ho fs al a17 a18 a19 a20 a21) = fn_Md_decide_14 N N (j_b false) (Int32.ofNat 0) (j_b false) (Int32.ofNat 0) (ks S fc w.1.length rn (Int32.ofInt 0) an ho fs al a17 a18 a19 a20 a21) := by
    unfold fn_Md_decide fn_Md_decide_0
    rw [ks_u37, ks_pr]
    rfl
  rw [e0, k1]
  generalize Q.foldl (d_1 w.1) (false, 0, Int32.ofInt 0, false) = z
  unfold d_ans
  cases hz : z.1 with
  | true =>
    obtain ⟨N', hN'⟩ : ∃ N', N = N' + 1 := ⟨N - 1, by omega⟩
    have e1 : ∀ K, K = N' + 1 → fn_Md_decide_182 N K (j_b true) (j_b z.2.2.2) (Int32.ofInt 0) ((Int8.ofInt (-6)).toInt32) (Int32.ofInt 0) (ks S fc w.1.length rn z.2.2.1 an1 ho1 fs1 al1 b17 b18 b19 b20 b21) = fn_Md_decide_266 N (j_b true) (j_b z.2.2.2) ((Int8.ofInt (-6)).toInt32) (ks S fc w.1.length rn z.2.2.1 an1 ho1 fs1 al1 b17 b18 b19 b20 b21) := fun K hK => by
      rw [hK]
      exact m_d182s (c := 0) (Or.inr (show ¬ j_b true = 0 from n_ne10))
    rw [e1 N hN', m_d266]
    exact ⟨an1, ho1, fs1, al1, b17, b18, b19, b20, b21, rfl, k2⟩
  | false =>
    obtain ⟨an2, ho2, fs2, al2, c17, c18, c19, c20, c21, k3, k4⟩ := m_d182 (N := N) (S := S) hN hN2 hmo h7 hQ hro Q.length N 0 0 (j_b z.2.2.2) fc rn z.2.2.1 an1 ho1 fs1 al1 b17 b18 b19 b20 b21 (by omega) (by omega) (Nat.le_refl _) k2
    rw [List.drop_zero, m_d266] at k3
    have k3' : fn_Md_decide_182 N N (j_b false) (j_b z.2.2.2) (Int32.ofInt 0) ((Int8.ofInt (-6)).toInt32) (Int32.ofInt 0) (ks S fc w.1.length rn z.2.2.1 an1 ho1 fs1 al1 b17 b18 b19 b20 b21) = _ := k3
    rw [k3']
    exact ⟨an2, ho2, fs2, al2, c17, c18, c19, c20, c21, rfl, k4⟩
end MDE
