/-! ### The reference's fits -/
def r_row (a17 : Nat → Int32) (i : Nat) : j_R := (a17 (5 * i), a17 (5 * i + 1), a17 (5 * i + 2), a17 (5 * i + 3), a17 (5 * i + 4))
theorem ml9 : md_len 9 = 31 := rfl
theorem ml10 : md_len 10 = 31 := rfl
theorem ml11 : md_len 11 = 31 := rfl
theorem ml17 : md_len 17 = 160 := rfl
theorem ml18 : md_len 18 = 4 := rfl
theorem ml19 : md_len 19 = 5 := rfl
theorem ml20 : md_len 20 = 8 := rfl
theorem ml21 : md_len 21 = 48 := rfl
theorem g_te_lt {t : Int} (h : j_tv t) (e : t < 1048576) : Int32.ofInt (g_te t) < 100000 ∧ Int32.ofInt (g_te t) - (Int16.ofInt (10000)).toInt32 = Int32.ofInt t := by
  have e10 : (Int16.ofInt (10000)).toInt32 = Int32.ofInt 10000 := by decide
  have he : g_te t = 10000 + t := if_pos e
  unfold j_tv at h
  refine ⟨?_, ?_⟩
  · rw [he, show (100000 : Int32) = Int32.ofInt 100000 from rfl, i_lt (by omega) (by omega) (by decide) (by decide)]
    omega
  · rw [e10, he, ← Int32.ofInt_sub]
    congr 1
    omega
theorem g_te_ge {t : Int} (h : j_tv t) (e : ¬ t < 1048576) : ¬ Int32.ofInt (g_te t) < 100000 ∧ Int32.ofInt (g_te t) - 100000 = Int32.ofNat (j_ix t) := by
  have he : g_te t = 100000 + (t - 1048576) := if_neg e
  unfold j_tv at h
  refine ⟨?_, ?_⟩
  · rw [he, show (100000 : Int32) = Int32.ofInt 100000 from rfl, i_lt (by omega) (by omega) (by decide) (by decide)]
    omega
  · rw [he, show (100000 : Int32) = Int32.ofInt 100000 from rfl, ← Int32.ofInt_sub]
    show _ = Int32.ofInt (j_ix t : Int)
    unfold j_ix
    congr 1
    omega
theorem jb_shift : ∀ m : Fin 256, ∀ i : Fin 8, ((Int32.ofNat m.val >>> (Int32.ofNat i.val &&& 31)) &&& Int32.ofInt 1 = 0 ↔ m.val.testBit i.val = false) ∧ Int32.ofNat m.val ||| (Int32.ofInt 1 <<< (Int32.ofNat i.val &&& 31)) = Int32.ofNat (m.val ||| 2 ^ i.val) ∧ m.val ||| 2 ^ i.val < 256 := by decide +kernel
section MFT
variable {N : Nat} {S : MS} {fc od rn : Nat} {uf an ho fs al : Int32} {a17 a18 a19 a20 a21 : Nat → Int32}
theorem m_worth {t : Int} (ht : j_tv t) : fn_Md_worth N (Int32.ofInt (g_te t)) (ks S fc od rn uf an ho fs al a17 a18 a19 a20 a21) = some (j_val a20 t, ks S fc od rn uf an ho fs al a17 a18 a19 a20 a21) := by
  unfold fn_Md_worth fn_Md_worth_0 fn_Md_worth_23 j_val
  by_cases e : t < 1048576
  · obtain ⟨h1, h2⟩ := g_te_lt ht e
    rw [if_pos h1, if_pos e, h2]
  · obtain ⟨h1, h2⟩ := g_te_ge ht e
    have h8 := (j_ix_lt ht e).1
    rw [if_neg h1, if_neg e, h2, if_pos (by rw [n_in (by omega), ml20]; exact h8), ks_h20, n_nat (by omega)]
theorem m_trusted {c p : Nat} {st : Bool} (hc : c ≤ 30) (h10 : S.2 10 c = Int32.ofNat p) (h11 : S.2 11 c = if st = true then Int32.ofInt 1 else Int32.ofInt 0) : fn_Md_trusted N (Int32.ofNat c) (ks S fc od rn uf an ho fs al a17 a18 a19 a20 a21) = some (j_tr p st, ks S fc od rn uf an ho fs al a17 a18 a19 a20 a21) := by
  unfold fn_Md_trusted fn_Md_trusted_0 fn_Md_trusted_31 j_tr j_own
  rw [if_pos (by rw [n_in (by omega), ml10]; omega), if_pos (by rw [n_in (by omega), ml11]; omega), ks_h11, ks_h10, n_nat (by omega), h10, h11]
  cases st with
  | true => rw [if_pos rfl, if_neg n_ne10]; rfl
  | false => rw [show (if false = true then Int32.ofInt 1 else Int32.ofInt 0) = Int32.ofInt 0 from rfl, if_pos n_e00]; rfl
/-- one term -/
theorem m_ft90 {x2 f T j : Nat} {m : Nat} {v : Nat → Int32} {t : Int} {sz : Nat} (hx2 : 1 ≤ x2 ∧ x2 ≤ 3) (hf : f ≤ 31) (hT : T ≤ 492) (hj : j < sz) (hsz : sz ≤ 2) (hs : S.2 13 (T + 1) = Int32.ofNat sz) (ht : j_tv t) (ha : S.2 13 (T + 2 + j) = Int32.ofInt (g_te t)) (hm : m < 256) (hb : a19 (x2 + 1) = Int32.ofNat m) (hav : av m a20 v) {d : Nat} :
    match j_ft t (a17 (5 * f + 2 + j)) m v with
    | some r => r.1 < 256 ∧ ∃ a19' a20', fn_Md_fit_90 N (d + 1) (Int32.ofNat x2) (Int32.ofNat f) (Int32.ofNat T) (Int32.ofNat j) (ks S fc od rn uf an ho fs al a17 a18 a19 a20 a21) = fn_Md_fit_90 N d (Int32.ofNat x2) (Int32.ofNat f) (Int32.ofNat T) (Int32.ofNat (j + 1)) (ks S fc od rn uf an ho fs al a17 a18 a19' a20' a21) ∧ a19' (x2 + 1) = Int32.ofNat r.1 ∧ (∀ q, q ≠ x2 + 1 → a19' q = a19 q) ∧ av r.1 a20' r.2
    | none => fn_Md_fit_90 N (d + 1) (Int32.ofNat x2) (Int32.ofNat f) (Int32.ofNat T) (Int32.ofNat j) (ks S fc od rn uf an ho fs al a17 a18 a19 a20 a21) = some (Int32.ofInt 0, ks S fc od rn uf an ho fs al a17 a18 a19 a20 a21) := by
  have ad1 : ∀ q : Nat, Int32.ofNat q + Int32.ofInt 1 = Int32.ofNat (q + 1) := fun q => by rw [n_1, n_add]
  have ad2 : ∀ q : Nat, Int32.ofNat q + Int32.ofInt 2 = Int32.ofNat (q + 2) := fun q => by rw [n_2, n_add]
  have i1 : md_in (Int32.ofNat (T + 1)) (md_len 13) = true := by rw [n_in (by omega), ml13]; omega
  have i2 : md_in (Int32.ofNat (T + 2 + j)) (md_len 13) = true := by rw [n_in (by omega), ml13]; omega
  have i3 : md_in (Int32.ofNat (5 * f + 2 + j)) (md_len 17) = true := by rw [n_in (by omega), ml17]; omega
  have i4 : md_in (Int32.ofNat (x2 + 1)) (md_len 19) = true := by rw [n_in (by omega), ml19]; omega
  have hnle : ∀ a b : Int32, a ≤ b ↔ ¬ b < a := fun a b => by rw [Int32.le_iff_toInt_le, Int32.lt_iff_toInt_lt]; omega
  have e0 : fn_Md_fit_90 N (d + 1) (Int32.ofNat x2) (Int32.ofNat f) (Int32.ofNat T) (Int32.ofNat j) (ks S fc od rn uf an ho fs al a17 a18 a19 a20 a21) = (if (100000 : Int32) ≤ Int32.ofInt (g_te t) then (if (Int32.ofNat m >>> ((Int32.ofInt (g_te t) - 100000) &&& 31)) &&& Int32.ofInt 1 = 0 then (if md_in (Int32.ofInt (g_te t) - 100000) (md_len 20) = true then fn_Md_fit_90 N d (Int32.ofNat x2) (Int32.ofNat f) (Int32.ofNat T) (Int32.ofNat (j + 1)) (ks S fc od rn uf an ho fs al a17 a18 (upd a19 (x2 + 1) (Int32.ofNat m ||| (Int32.ofInt 1 <<< ((Int32.ofInt (g_te t) - 100000) &&& 31)))) (upd a20 (Int32.ofInt (g_te t) - 100000).toNatClampNeg (a17 (5 * f + 2 + j))) a21) else none) else (if md_in (Int32.ofInt (g_te t) - 100000) (md_len 20) = true then (if a20 (Int32.ofInt (g_te t) - 100000).toNatClampNeg = a17 (5 * f + 2 + j) then fn_Md_fit_90 N d (Int32.ofNat x2) (Int32.ofNat f) (Int32.ofNat T) (Int32.ofNat (j + 1)) (ks S fc od rn uf an ho fs al a17 a18 a19 a20 a21) else some (Int32.ofInt 0, ks S fc od rn uf an ho fs al a17 a18 a19 a20 a21)) else none)) else (if Int32.ofInt (g_te t) - (Int16.ofInt (10000)).toInt32 = a17 (5 * f + 2 + j) then fn_Md_fit_90 N d (Int32.ofNat x2) (Int32.ofNat f) (Int32.ofNat T) (Int32.ofNat (j + 1)) (ks S fc od rn uf an ho fs al a17 a18 a19 a20 a21) else some (Int32.ofInt 0, ks S fc od rn uf an ho fs al a17 a18 a19 a20 a21))) := by
    conv => lhs; unfold fn_Md_fit_90
    unfold fn_Md_fit_222
    rw [ad1, ad1, ad2, n_add, n_5, n_mul, ad2, n_add, if_pos i1, ks_h13, n_nat (by omega), hs, if_neg (n_leF hj (by omega)), if_pos i2, if_pos i3, n_nat (by omega), n_nat (by omega), ha, if_pos i4, if_pos i4, if_pos i4, if_pos n_b0, ad1]
    dsimp only
    rw [ks_h19, n_nat (by omega), hb, ks_v19, ks_h20, ks_h17, ks_v20, ks_pr]
    rfl
  rw [e0]
  unfold j_ft
  by_cases e : t < 1048576
  · obtain ⟨h1, h2⟩ := g_te_lt ht e
    rw [if_neg (fun q => (hnle _ _).mp q h1), if_pos e, h2]
    by_cases e2 : Int32.ofInt t = a17 (5 * f + 2 + j)
    · rw [if_pos e2, if_pos e2]
      exact ⟨hm, a19, a20, rfl, hb, fun _ _ => rfl, hav⟩
    · rw [if_neg e2, if_neg e2]
  · obtain ⟨h1, h2⟩ := g_te_ge ht e
    have h8 := (j_ix_lt ht e).1
    obtain ⟨b1, b2, b3⟩ := jb_shift ⟨m, hm⟩ ⟨j_ix t, h8⟩
    simp only at b1 b2 b3
    have i5 : md_in (Int32.ofNat (j_ix t)) (md_len 20) = true := by rw [n_in (by omega), ml20]; exact h8
    rw [if_pos ((hnle _ _).mpr h1), if_neg e, h2, if_pos i5, if_pos i5, n_nat (by omega)]
    by_cases e3 : m.testBit (j_ix t) = true
    · have hnb : ¬ (Int32.ofNat m >>> (Int32.ofNat (j_ix t) &&& 31)) &&& Int32.ofInt 1 = 0 := fun q => by rw [b1.mp q] at e3; cases e3
      rw [if_neg hnb, if_pos e3, hav _ h8 e3]
      by_cases e2 : v (j_ix t) = a17 (5 * f + 2 + j)
      · rw [if_pos e2, if_pos e2]
        exact ⟨hm, a19, a20, rfl, hb, fun _ _ => rfl, hav⟩
      · rw [if_neg e2, if_neg e2]
    · have e3' : m.testBit (j_ix t) = false := by simpa using e3
      rw [if_pos (b1.mpr e3'), if_neg e3]
      refine ⟨b3, upd a19 (x2 + 1) (Int32.ofNat m ||| (Int32.ofInt 1 <<< (Int32.ofNat (j_ix t) &&& 31))), upd a20 (j_ix t) (a17 (5 * f + 2 + j)), rfl, ?_, fun q hq => upd_ne hq, ?_⟩
      · rw [upd_eq, b2]
      · intro i hi hbit
        dsimp only at hbit ⊢
        by_cases ei : i = j_ix t
        · rw [ei, upd_eq, upd_eq]
        · rw [upd_ne ei, upd_ne ei]
          refine hav i hi ?_
          rw [Nat.testBit_or, Nat.testBit_two_pow] at hbit
          simpa [Ne.symm ei] using hbit
/-- missing terms are 0 -/
def a_sz (a : g_A) : Prop := a.2.1 ≤ 2 ∧ (a.2.1 ≤ 1 → a.2.2.2 = 0) ∧ (a.2.1 = 0 → a.2.2.1 = 0)
def r_sz (r : j_R) : Prop := (r.2.1 = Int32.ofNat 0 → r.2.2.1 = 0 ∧ r.2.2.2.1 = 0) ∧ (r.2.1 = Int32.ofNat 1 → r.2.2.2.1 = 0)
theorem j_ft0 (m : Nat) (v : Nat → Int32) : j_ft 0 0 m v = some (m, v) := by
  unfold j_ft
  rw [if_pos (by decide), if_pos n_e00]
theorem m_fit90z {x2 f T j : Nat} {sz : Nat} (hT : T ≤ 492) (hj : sz ≤ j) (hj2 : j ≤ 2) (hs : S.2 13 (T + 1) = Int32.ofNat sz) {d : Nat} : fn_Md_fit_90 N (d + 1) (Int32.ofNat x2) (Int32.ofNat f) (Int32.ofNat T) (Int32.ofNat j) (ks S fc od rn uf an ho fs al a17 a18 a19 a20 a21) = some (Int32.ofInt 1, ks S fc od rn uf an ho fs al a17 a18 a19 a20 a21) := by
  have ad1 : ∀ q : Nat, Int32.ofNat q + Int32.ofInt 1 = Int32.ofNat (q + 1) := fun q => by rw [n_1, n_add]
  unfold fn_Md_fit_90
  rw [ad1, if_pos (by rw [n_in (by omega), ml13]; omega), ks_h13, n_nat (by omega), hs, if_pos (n_leT (by omega) (by omega)), if_pos n_b1]
theorem m_fit (hN : 60 ≤ N) {c p k f m : Nat} {st : Bool} {a : g_A} {v : Nat → Int32} (hc : c ≤ 30) (h10 : S.2 10 c = Int32.ofNat p) (h11 : S.2 11 c = if st = true then Int32.ofInt 1 else Int32.ofInt 0) (hk : 1 ≤ k ∧ k ≤ 3) (hf : f ≤ 30) (hat : am_rep (S.2 13) (16 * c + 4 * k) a) (hasz : a_sz a) (ha1 : a.1 < 26) (ht1 : j_tv a.2.2.1) (ht2 : j_tv a.2.2.2) (hrs : r_sz (r_row a17 f)) (hm : m < 256) (hb : a19 k = Int32.ofNat m) (hav : av m a20 v) :
    match j_fit a (r_row a17 f) (j_tr p st) m v with
    | some r => r.1 < 256 ∧ ∃ a19' a20', fn_Md_fit N (Int32.ofNat c) (Int32.ofNat k) (Int32.ofNat f) (ks S fc od rn uf an ho fs al a17 a18 a19 a20 a21) = some (Int32.ofInt 1, ks S fc od rn uf an ho fs al a17 a18 a19' a20' a21) ∧ a19' (k + 1) = Int32.ofNat r.1 ∧ (∀ q, q ≠ k + 1 → a19' q = a19 q) ∧ av r.1 a20' r.2
    | none => ∃ a19' a20', fn_Md_fit N (Int32.ofNat c) (Int32.ofNat k) (Int32.ofNat f) (ks S fc od rn uf an ho fs al a17 a18 a19 a20 a21) = some (Int32.ofInt 0, ks S fc od rn uf an ho fs al a17 a18 a19' a20' a21) ∧ (∀ q, q ≠ k + 1 → a19' q = a19 q) ∧ av m a20' v := by
  have ad1 : ∀ q : Nat, Int32.ofNat q + Int32.ofInt 1 = Int32.ofNat (q + 1) := fun q => by rw [n_1, n_add]
  have ad4 : ∀ q : Nat, Int32.ofNat q + Int32.ofInt 4 = Int32.ofNat (q + 4) := fun q => by rw [n_4, n_add]
  have m5 : ∀ q : Nat, Int32.ofInt 5 * Int32.ofNat q = Int32.ofNat (5 * q) := fun q => by rw [n_5, n_mul]
  have m4 : ∀ q : Nat, Int32.ofInt 4 * Int32.ofNat q = Int32.ofNat (4 * q) := fun q => by rw [n_4, n_mul]
  obtain ⟨g1, g2, g3, g4⟩ := hat
  obtain ⟨z1, z2, z3⟩ := hasz
  generalize hT : 16 * c + 4 * k = T at g1 g2 g3 g4
  have hT492 : T ≤ 492 := by omega
  have i1 : md_in (Int32.ofNat k) (md_len 19) = true := by rw [n_in (by omega), ml19]; omega
  have i2 : md_in (Int32.ofNat (k + 1)) (md_len 19) = true := by rw [n_in (by omega), ml19]; omega
  have i3 : md_in (Int32.ofNat (5 * f)) (md_len 17) = true := by rw [n_in (by omega), ml17]; omega
  have i4 : md_in (Int32.ofNat T) (md_len 13) = true := by rw [n_in (by omega), ml13]; omega
  have i5 : md_in (Int32.ofNat (5 * f + 1)) (md_len 17) = true := by rw [n_in (by omega), ml17]; omega
  have i6 : md_in (Int32.ofNat (T + 1)) (md_len 13) = true := by rw [n_in (by omega), ml13]; omega
  have i7 : md_in (Int32.ofNat (5 * f + 4)) (md_len 17) = true := by rw [n_in (by omega), ml17]; omega
  have hj : j_fit a (r_row a17 f) (j_tr p st) m v = (if a17 (5 * f) = Int32.ofNat a.1 ∧ a17 (5 * f + 1) = Int32.ofNat a.2.1 ∧ a17 (5 * f + 4) &&& (j_tr p st ^^^ (Int32.ofInt (-1))) = 0 then (j_ft a.2.2.1 (a17 (5 * f + 2)) m v).bind fun q => j_ft a.2.2.2 (a17 (5 * f + 3)) q.1 q.2 else none) := rfl
  have e0 : fn_Md_fit N (Int32.ofNat c) (Int32.ofNat k) (Int32.ofNat f) (ks S fc od rn uf an ho fs al a17 a18 a19 a20 a21) = (if a17 (5 * f) = Int32.ofNat a.1 then (if a17 (5 * f + 1) = Int32.ofNat a.2.1 then (if a17 (5 * f + 4) &&& (j_tr p st ^^^ (Int32.ofInt (-1))) = 0 then fn_Md_fit_90 N N (Int32.ofNat k) (Int32.ofNat f) (Int32.ofNat T) (Int32.ofNat 0) (ks S fc od rn uf an ho fs al a17 a18 (upd a19 (k + 1) (Int32.ofNat m)) a20 a21) else some (Int32.ofInt 0, ks S fc od rn uf an ho fs al a17 a18 (upd a19 (k + 1) (Int32.ofNat m)) a20 a21)) else some (Int32.ofInt 0, ks S fc od rn uf an ho fs al a17 a18 (upd a19 (k + 1) (Int32.ofNat m)) a20 a21)) else some (Int32.ofInt 0, ks S fc od rn uf an ho fs al a17 a18 (upd a19 (k + 1) (Int32.ofNat m)) a20 a21)) := by
    unfold fn_Md_fit fn_Md_fit_0 fn_Md_fit_85
    rw [ad1, m5, n_c16, n_mul, m4, n_add, hT, ad1, ad1, ad4, if_pos i1, if_pos i2, if_pos i3, if_pos i4, if_pos i5, if_pos i6, if_pos i7]
    simp only [ks_h19, n_nat (show k < 2147483648 by omega), n_nat (show k + 1 < 2147483648 by omega), hb, ks_v19, ks_pr, m_trusted hc h10 h11, Option.bind_some, n_nat (show 5 * f < 2147483648 by omega), n_nat (show 5 * f + 1 < 2147483648 by omega), n_nat (show 5 * f + 4 < 2147483648 by omega), n_nat (show T < 2147483648 by omega), n_nat (show T + 1 < 2147483648 by omega), ks_h17, ks_h13, g1, g2, if_pos n_b0]
    rfl
  rw [hj, e0]
  by_cases c0 : a17 (5 * f) = Int32.ofNat a.1
  · by_cases c1 : a17 (5 * f + 1) = Int32.ofNat a.2.1
    · by_cases c4 : a17 (5 * f + 4) &&& (j_tr p st ^^^ (Int32.ofInt (-1))) = 0
      · rw [if_pos c0, if_pos c1, if_pos c4, if_pos (And.intro c0 (And.intro c1 c4))]
        have hbA : upd a19 (k + 1) (Int32.ofNat m) (k + 1) = Int32.ofNat m := upd_eq _ _ _
        have hfr : ∀ q, q ≠ k + 1 → upd a19 (k + 1) (Int32.ofNat m) q = a19 q := fun q hq => upd_ne hq
        generalize upd a19 (k + 1) (Int32.ofNat m) = b19 at hbA hfr
        obtain ⟨N', rfl⟩ : ∃ N', N = N' + 3 := ⟨N - 3, by omega⟩
        by_cases s0 : a.2.1 = 0
        · have hr := hrs.1 (by show a17 (5 * f + 1) = _; rw [c1, s0])
          have hr1 : a17 (5 * f + 2) = 0 := hr.1
          have hr2 : a17 (5 * f + 3) = 0 := hr.2
          rw [z3 s0, z2 (by omega), hr1, hr2, j_ft0, Option.bind_some, j_ft0]
          exact ⟨hm, b19, a20, m_fit90z hT492 (sz := a.2.1) (by omega) (by omega) g2, hbA, hfr, hav⟩
        · have k1 := m_ft90 (N := N' + 3) (S := S) (fc := fc) (od := od) (rn := rn) (uf := uf) (an := an) (ho := ho) (fs := fs) (al := al) (a17 := a17) (a18 := a18) (a21 := a21) (d := N' + 2) (x2 := k) (f := f) (T := T) (j := 0) (sz := a.2.1) hk (by omega) hT492 (by omega) z1 g2 ht1 (g3 (by omega)) hm hbA hav
          rw [show 5 * f + 2 + 0 = 5 * f + 2 by omega] at k1
          cases f1 : j_ft a.2.2.1 (a17 (5 * f + 2)) m v with
          | none =>
            rw [f1] at k1
            simp only at k1
            rw [k1, Option.bind_none]
            exact ⟨b19, a20, rfl, hfr, hav⟩
          | some q =>
            rw [f1] at k1
            obtain ⟨hq, c19, c20, k1, kb, kf, kv⟩ := k1
            obtain ⟨mo1, mo2⟩ := j_ft_mono f1
            have hfr2 : ∀ y, y ≠ k + 1 → c19 y = a19 y := fun y hy => by rw [kf y hy, hfr y hy]
            rw [k1, Option.bind_some]
            by_cases s1 : a.2.1 = 1
            · have hr2 : a17 (5 * f + 3) = 0 := hrs.2 (by show a17 (5 * f + 1) = _; rw [c1, s1])
              rw [z2 (by omega), hr2, j_ft0]
              exact ⟨hq, c19, c20, m_fit90z hT492 (sz := a.2.1) (by omega) (by omega) g2, kb, hfr2, kv⟩
            · have k2 := m_ft90 (N := N' + 3) (S := S) (fc := fc) (od := od) (rn := rn) (uf := uf) (an := an) (ho := ho) (fs := fs) (al := al) (a17 := a17) (a18 := a18) (a21 := a21) (d := N' + 1) (x2 := k) (f := f) (T := T) (j := 0 + 1) (sz := a.2.1) hk (by omega) hT492 (by omega) z1 g2 ht2 (by rw [show T + 2 + (0 + 1) = T + 3 by omega]; exact g4 (by omega)) hq kb kv
              rw [show 5 * f + 2 + (0 + 1) = 5 * f + 3 by omega] at k2
              cases f2 : j_ft a.2.2.2 (a17 (5 * f + 3)) q.1 q.2 with
              | none =>
                rw [f2] at k2
                simp only at k2
                rw [k2]
                refine ⟨c19, c20, rfl, hfr2, fun i hi hbit => ?_⟩
                rw [kv i hi (by rw [mo1, Nat.testBit_or, hbit]; rfl), mo2 i hbit]
              | some q2 =>
                rw [f2] at k2
                obtain ⟨hq2, d19, d20, k2, kb2, kf2, kv2⟩ := k2
                rw [k2]
                exact ⟨hq2, d19, d20, m_fit90z hT492 (sz := a.2.1) (by omega) (by omega) g2, kb2, fun y hy => by rw [kf2 y hy, hfr2 y hy], kv2⟩
      · rw [if_pos c0, if_pos c1, if_neg c4, if_neg (show ¬ (a17 (5 * f) = Int32.ofNat a.1 ∧ a17 (5 * f + 1) = Int32.ofNat a.2.1 ∧ a17 (5 * f + 4) &&& (j_tr p st ^^^ (Int32.ofInt (-1))) = 0) from fun q => c4 q.2.2)]
        exact ⟨_, a20, rfl, fun q hq => upd_ne hq, hav⟩
    · rw [if_pos c0, if_neg c1, if_neg (show ¬ (a17 (5 * f) = Int32.ofNat a.1 ∧ a17 (5 * f + 1) = Int32.ofNat a.2.1 ∧ a17 (5 * f + 4) &&& (j_tr p st ^^^ (Int32.ofInt (-1))) = 0) from fun q => c1 q.2.1)]
      exact ⟨_, a20, rfl, fun q hq => upd_ne hq, hav⟩
  · rw [if_neg c0, if_neg (show ¬ (a17 (5 * f) = Int32.ofNat a.1 ∧ a17 (5 * f + 1) = Int32.ofNat a.2.1 ∧ a17 (5 * f + 4) &&& (j_tr p st ^^^ (Int32.ofInt (-1))) = 0) from fun q => c0 q.1)]
    exact ⟨_, a20, rfl, fun q hq => upd_ne hq, hav⟩
end MFT
