/-! ### token: both sides -/
theorem n_div {a b : Nat} (ha : a < 2147483648) (hb : b < 2147483648) (hb0 : 0 < b) : Int32.ofNat a / Int32.ofNat b = Int32.ofNat (a / b) := by
  have hab : a / b ≤ a := Nat.div_le_self a b
  apply Int32.toInt_inj.mp
  rw [Int32.toInt_div, Int32.toInt_ofNat_of_lt (by show a < 2147483648; exact ha), Int32.toInt_ofNat_of_lt (by show b < 2147483648; exact hb), Int32.toInt_ofNat_of_lt (by show a / b < 2147483648; omega), Int.tdiv_eq_ediv_of_nonneg (by omega)]
  have e : (a : Int) / (b : Int) = ((a / b : Nat) : Int) := rfl
  rw [e]
  generalize a / b = q at *
  rw [Int.bmod_eq_of_le (by show -(4294967296 / 2 : Int) ≤ _; omega) (by show _ < ((4294967296 : Int) + 1) / 2; omega)]
theorem n_mod {a b : Nat} (ha : a < 2147483648) (hb : b < 2147483648) (hb0 : 0 < b) : Int32.ofNat a - Int32.ofNat a / Int32.ofNat b * Int32.ofNat b = Int32.ofNat (a % b) := by
  rw [n_div ha hb hb0, n_mul, n_sub (Nat.div_mul_le_self a b)]
  congr 1
  have := Nat.div_add_mod a b
  rw [Nat.mul_comm] at this
  omega
theorem n_nx {x : Int32} (h0 : ¬ x < 0) : ∃ n, n < 2147483648 ∧ x = Int32.ofNat n := by
  refine ⟨x.toNatClampNeg, ?_, ag_nn2' h0⟩
  have := ag_nn x h0
  have := Int32.toInt_lt x
  omega
def l_tell (l : w_K) (k : Nat) : Int32 := if k = 1 then l.1 else if k = 2 then l.2.1 else l.2.2.1
def w_tell (T : w_T) (n : Nat) : Option Int32 := if n = 0 then some (Int32.ofNat T.1.length) else if n = 1 then some (j_b T.2.1) else if n = 2 then some T.2.2.1 else if n < 10 then none else if 40 ≤ n then none else (T.1[n % 10]?).map (fun l => l_tell l (n / 10))
def s_tok (x1 x2 : Int32) (Ts : List w_T) : Int32 × Int32 := if w_no Ts x1 then (Int32.ofInt 0, Int32.ofInt 1) else if x2 < 0 then (Int32.ofInt 0, Int32.ofInt 1) else match w_tell (w_at Ts x1) x2.toNatClampNeg with
  | none => (Int32.ofInt 0, Int32.ofInt 1)
  | some v => (v, Int32.ofInt 0)
section TOK
variable {N : Nat} {C : Nat × Nat} {ow : Nat → Nat} {g : ag_H} {S : MS} {lc : Nat → Nat} {ln : Nat} {M : List g_Cl} {Bs : List (List g_Cl)} {D : List g_Cl} {Ts : List w_T} {K most more : Nat} {re : Int32} {rd : Nat} {un : Int32} {G Gs : List j_R}
theorem c_val1 {kd : Nat → Option Int32} {F : Option ((Int32 ⊕ Nat) × ag_H)} {v : Int32} {I0 I1 : (Nat → Nat) → ag_H → Prop} (hF : F = some (.inl v, g)) (h : I1 ow g) : c_out kd F g (v, Int32.ofInt 0) I0 I1 := ⟨g, ow, c_fr_self g, Or.inl ⟨rfl, hF, h⟩⟩
theorem c_token (h : cI ow g lc ln M Bs D Ts K most more re rd un Gs) (ok : g_ok lc ln M Bs D Ts K most more) (x1 x2 : Int32) (hC1 : g.1 + 100 ≤ C.1) (hC2 : g.2.1 + 500 ≤ C.2) :
    c_out kd_token (fn_GC_token N C 2 x1 x2 g) g (s_tok x1 x2 Ts) (fun ow g => cI ow g lc ln M Bs D Ts K most more re rd un Gs) (fun ow g => cI ow g lc ln M Bs D Ts K most more re rd un Gs) := by
  have h0 := h
  obtain ⟨h1, -, -, -, -, mk, hG, hO⟩ := h
  have e2 : ag_at g (.ref 2) = _ := pu_at (by omega) (by omega) hG
  have hT16 := ok.2.2.2.2.1.1
  have h12 : fn_GC_token_12 N C 2 g = if g.1 + 1 ≤ C.1 ∧ g.2.1 + 6 ≤ C.2 then some (.inr g.1, ag_nw g 6 (.inr (14, []))) else none := rfl
  have h75 : fn_GC_token_75 N C 2 g = if g.1 + 1 ≤ C.1 ∧ g.2.1 + 6 ≤ C.2 then some (.inr g.1, ag_nw g 6 (.inr (14, []))) else none := rfl
  unfold s_tok fn_GC_token fn_GC_token_0
  rw [pu_rc e2, Option.bind_some, c_isT h0 hT16 x1, Option.bind_some]
  dsimp only
  by_cases c1 : w_no Ts x1
  · rw [if_pos c1, if_pos (show x1 < 0 ∨ Int32.ofNat Ts.length ≤ x1 from c1), if_pos n_e00]
    exact c_thr h0 14 h12 (by omega) (by omega) (by decide) rfl
  obtain ⟨b, l, k1, k2, k3, k4⟩ := c_tok (N := N) (C := C) h0 hT16 c1
  rw [if_neg c1, if_neg (show ¬ (x1 < 0 ∨ Int32.ofNat Ts.length ≤ x1) from c1), if_neg n_ne10]
  by_cases c2 : x2 < 0
  · rw [if_pos c2, if_neg (show ¬ (0 : Int32) ≤ x2 by rw [Int32.le_iff_toInt_le]; rw [Int32.lt_iff_toInt_lt] at c2; omega)]
    exact c_thr h0 14 h12 (by omega) (by omega) (by decide) rfl
  rw [if_neg c2, if_pos (show (0 : Int32) ≤ x2 by rw [Int32.le_iff_toInt_le]; rw [Int32.lt_iff_toInt_lt] at c2; omega), pu_gr (k := 5) e2 rfl, Option.bind_some, al_rep_rc hO.2.2.2.2.1, Option.bind_some, k1, Option.bind_some]
  obtain ⟨n, hn, rfl⟩ := n_nx c2
  dsimp only
  rw [if_pos (pu_ck k2), if_pos (show ¬ (Int8.ofInt (10)).toInt32 = 0 by decide), if_pos (show ¬ (Int8.ofInt (10)).toInt32 = 0 by decide), n_c10, n_mod hn (by omega) (by omega), n_div hn (by omega) (by omega), n_3, n_nat hn]
  have hlen := (ok.2.2.2.2.1.2 (w_at Ts x1) (by obtain ⟨i, _, _, h3⟩ := w_at_get hT16 c1; exact List.mem_of_getElem? h3)).1
  have hm10 : n % 10 < 10 := Nat.mod_lt _ (by omega)
  generalize w_at Ts x1 = T at *
  unfold w_tell
  by_cases c40 : 40 ≤ n
  · rw [if_pos (n_ltT (by omega) (by omega)), if_neg (by omega), if_neg (by omega), if_neg (by omega), if_neg (by omega), if_pos c40]
    exact c_thr h0 14 h75 (by omega) (by omega) (by decide) rfl
  rw [if_neg (n_ltF (by omega) (by omega))]
  by_cases c10 : n < 10
  · rw [if_pos (show Int32.ofNat (n / 10) = 0 by rw [show n / 10 = 0 by omega]; rfl), show n % 10 = n by omega, show n / 10 = 0 by omega]
    unfold fn_GC_token_72 fn_GC_token_116
    by_cases c3 : n < 3
    · rw [if_pos (n_ltT c3 (by omega)), if_pos (show Int32.ofNat 0 = 0 from rfl), pu_rc k2, Option.bind_some]
      unfold fn_Tk_tell fn_Tk_tell_0 fn_Tk_tell_40
      rcases (show n = 0 ∨ n = 1 ∨ n = 2 by omega) with rfl | rfl | rfl
      · rw [if_pos rfl, if_pos (show Int32.ofNat 0 = 0 from rfl), pu_gr (k := 0) k2 rfl, Option.bind_some, al_rep_rc k3, Option.bind_some, al_rep_size k3, Option.bind_some, Option.bind_some]
        exact c_val1 rfl h0
      · rw [if_neg (show ¬ (1 : Nat) = 0 by decide), if_pos rfl, if_neg (show ¬ Int32.ofNat 1 = 0 by decide), if_pos n_1.symm, pu_gi (k := 1) k2 rfl, Option.bind_some]
        cases T.2.1 with
        | true => rw [if_neg (show ¬ j_b true = 0 from n_ne10), Option.bind_some]; exact c_val1 rfl h0
        | false => rw [if_pos (show j_b false = 0 from n_e00), Option.bind_some]; exact c_val1 rfl h0
      · rw [if_neg (show ¬ (2 : Nat) = 0 by decide), if_neg (show ¬ (2 : Nat) = 1 by decide), if_pos rfl, if_neg (show ¬ Int32.ofNat 2 = 0 by decide), if_neg (show ¬ Int32.ofNat 2 = Int32.ofInt 1 by decide), pu_gi (k := 2) k2 rfl, Option.bind_some, Option.bind_some]
        exact c_val1 rfl h0
    · rw [if_neg (n_ltF (by omega) (by omega)), if_neg (by omega), if_neg (by omega), if_neg (by omega), if_pos c10]
      exact c_thr h0 14 h75 (by omega) (by omega) (by decide) rfl
  · rw [if_neg (n_ne0 (by omega) (by omega)), pu_gr (k := 0) k2 rfl, Option.bind_some, al_rep_rc k3, Option.bind_some, al_rep_size k3, Option.bind_some, if_neg (by omega), if_neg (by omega), if_neg (by omega), if_neg c10, if_neg c40]
    unfold fn_GC_token_72 fn_GC_token_116
    dsimp only
    by_cases c5 : n % 10 < T.1.length
    · obtain ⟨lk, hlk⟩ : ∃ lk, T.1[n % 10]? = some lk := ⟨_, List.getElem?_eq_getElem c5⟩
      obtain ⟨q, q1, q2⟩ := al_rep_get (N := N) (C := C) k3 hlk
      have q3 := pu_at q2.2.1 q2.2.2.1 q2.2.2.2
      rw [if_pos (n_ltT c5 (by omega)), if_neg (n_ne0 (by omega) (by omega)), pu_gr (k := 0) k2 rfl, Option.bind_some, al_rep_rc k3, Option.bind_some, q1, Option.bind_some, hlk, Option.map_some]
      dsimp only
      rw [if_pos (pu_ck q3), pu_rc q3, Option.bind_some]
      unfold fn_Lk_tell fn_Lk_tell_0 fn_Lk_tell_28 l_tell
      rcases (show n / 10 = 1 ∨ n / 10 = 2 ∨ n / 10 = 3 by omega) with e | e | e
      · rw [e, if_pos n_1.symm, if_pos rfl, pu_gi (k := 0) q3 rfl, Option.bind_some, Option.bind_some]
        exact c_val1 rfl h0
      · rw [e, if_neg (show ¬ Int32.ofNat 2 = Int32.ofInt 1 by decide), if_pos n_2.symm, if_neg (show ¬ (2 : Nat) = 1 by decide), if_pos rfl, pu_gi (k := 1) q3 rfl, Option.bind_some, Option.bind_some]
        exact c_val1 rfl h0
      · rw [e, if_neg (show ¬ Int32.ofNat 3 = Int32.ofInt 1 by decide), if_neg (show ¬ Int32.ofNat 3 = Int32.ofInt 2 by decide), if_neg (show ¬ (3 : Nat) = 1 by decide), if_neg (show ¬ (3 : Nat) = 2 by decide), pu_gi (k := 2) q3 rfl, Option.bind_some, Option.bind_some]
        exact c_val1 rfl h0
    · rw [if_neg (n_ltF (by omega) (by omega)), List.getElem?_eq_none (by omega)]
      show c_out _ _ _ (Int32.ofInt 0, Int32.ofInt 1) _ _
      exact c_thr h0 14 h75 (by omega) (by omega) (by decide) rfl
theorem m_val1 {F : Option (Int32 × MS)} {v : Int32} (h : mI S lc ln M Bs D Ts K most more re rd un G) (hF : F = some (v, (va_up S.1 0 (Int32.ofInt 0), S.2))) : m_out F (v, Int32.ofInt 0) (fun S => mI S lc ln M Bs D Ts K most more re rd un G) (fun S => mI S lc ln M Bs D Ts K most more re rd un G) := ⟨_, hF, rfl, Or.inl ⟨rfl, mI_th _ h⟩⟩
theorem m_token (h : mI S lc ln M Bs D Ts K most more re rd un G) (ok : g_ok lc ln M Bs D Ts K most more) (x1 x2 : Int32) :
    m_out (fn_Md_token N x1 x2 S) (s_tok x1 x2 Ts) (fun S => mI S lc ln M Bs D Ts K most more re rd un G) (fun S => mI S lc ln M Bs D Ts K most more re rd un G) := by
  have hT16 := ok.2.2.2.2.1.1
  have h48 : ∀ y z, fn_Md_token_48 N x1 y z S = some (Int32.ofInt 0, (va_up S.1 0 (Int32.ofInt 1), S.2)) := fun y z => rfl
  have h44 : ∀ y z, fn_Md_token_44 N x1 y z S = fn_Md_token_62 N x1 y z (Int32.ofInt 1) (Int32.ofInt 0) S := fun y z => rfl
  unfold s_tok fn_Md_token fn_Md_token_0
  rw [if_pos (show ¬ (Int8.ofInt (10)).toInt32 = 0 by decide), m_isT h, Option.bind_some]
  dsimp only
  by_cases c1 : w_no Ts x1
  · rw [if_pos c1, if_pos (show x1 < 0 ∨ Int32.ofNat Ts.length ≤ x1 from c1), if_pos n_e00]
    exact m_thr h (h48 _ _) (by decide)
  obtain ⟨i, hi, hx, hg⟩ := w_at_get hT16 c1
  have ht1 := h.2.2.2.1.1 i _ hg
  have hlen := (ok.2.2.2.2.1.2 _ (List.mem_of_getElem? hg)).1
  rw [if_neg c1, if_neg (show ¬ (x1 < 0 ∨ Int32.ofNat Ts.length ≤ x1) from c1), if_neg n_ne10]
  generalize hW : w_at Ts x1 = T at *
  unfold fn_Md_token_22
  by_cases c2 : x2 < 0
  · rw [if_pos c2, if_pos c2, if_pos (show x2 < (Int8.ofInt (10)).toInt32 by
      rw [Int32.lt_iff_toInt_lt] at c2 ⊢
      have e1 : ((Int8.ofInt (10)).toInt32).toInt = 10 := by decide
      have e2 : (0 : Int32).toInt = 0 := by decide
      omega)]
    exact m_thr h (h48 _ _) (by decide)
  obtain ⟨n, hn, rfl⟩ := n_nx c2
  have i4 : md_in (Int32.ofNat i) (md_len 4) = true := by rw [n_in (by omega), mL4]; omega
  have i6 : md_in (Int32.ofNat i) (md_len 6) = true := by rw [n_in (by omega), mL6]; omega
  have i7 : md_in (Int32.ofNat i) (md_len 7) = true := by rw [n_in (by omega), mL7]; omega
  have nu : (Int32.ofNat i).toNatClampNeg = i := n_nat (by omega)
  have hm10 : n % 10 < 10 := Nat.mod_lt _ (by omega)
  rw [if_neg c2, if_neg c2, n_c10, n_mod hn (by omega) (by omega), n_3, n_nat hn, n_c40, hx, if_pos i4, nu, ht1.1]
  subst hx
  unfold w_tell
  by_cases c3 : n < 3
  · rw [if_pos (n_ltT c3 (by omega)), h44]
    unfold fn_Md_token_62 fn_Md_token_133
    rw [if_neg n_ne10]
    rcases (show n = 0 ∨ n = 1 ∨ n = 2 by omega) with rfl | rfl | rfl
    · rw [if_pos rfl, if_pos (show Int32.ofNat 0 = 0 from rfl), if_pos i4, nu]
      dsimp only
      rw [ht1.1]
      exact m_val1 h rfl
    · rw [if_neg (show ¬ (1 : Nat) = 0 by decide), if_pos rfl, if_neg (show ¬ Int32.ofNat 1 = 0 by decide), if_pos n_1.symm, if_pos i6, nu]
      dsimp only
      rw [ht1.2.1]
      cases T.2.1 with
      | true => rw [if_neg (show ¬ j_b true = 0 from n_ne10)]; exact m_val1 h rfl
      | false => rw [if_pos (show j_b false = 0 from n_e00)]; exact m_val1 h rfl
    · rw [if_neg (show ¬ (2 : Nat) = 0 by decide), if_neg (show ¬ (2 : Nat) = 1 by decide), if_pos rfl, if_neg (show ¬ Int32.ofNat 2 = 0 by decide), if_neg (show ¬ Int32.ofNat 2 = Int32.ofInt 1 by decide), if_pos n_2.symm, if_pos i7, nu]
      dsimp only
      rw [ht1.2.2.1]
      exact m_val1 h rfl
  rw [if_neg (n_ltF (by omega) (by omega)), if_neg (show ¬ n = 0 by omega), if_neg (show ¬ n = 1 by omega), if_neg (show ¬ n = 2 by omega)]
  by_cases c10 : n < 10
  · rw [if_pos (n_ltT c10 (by omega)), if_pos c10]
    exact m_thr h (h48 _ _) (by decide)
  rw [if_neg (n_ltF (by omega) (by omega)), if_neg c10]
  by_cases c40 : 40 ≤ n
  · rw [if_pos (n_leT c40 (by omega)), if_pos c40]
    exact m_thr h (h48 _ _) (by decide)
  rw [if_neg (n_leF (by omega) (by omega)), if_neg c40]
  by_cases c5 : n % 10 < T.1.length
  · obtain ⟨lk, hlk⟩ : ∃ lk, T.1[n % 10]? = some lk := ⟨_, List.getElem?_eq_getElem c5⟩
    have q := ht1.2.2.2.2 _ _ hlk
    rw [if_neg (n_leF c5 (by omega)), hlk, Option.map_some, h44]
    unfold fn_Md_token_62 fn_Md_token_133
    rw [if_neg n_ne10, if_neg (n_ne0 (by omega) (by omega)), if_neg (show ¬ Int32.ofNat n = Int32.ofInt 1 from n_eqF (b := 1) (by omega) (by omega) (by omega)), if_neg (show ¬ Int32.ofNat n = Int32.ofInt 2 from n_eqF (b := 2) (by omega) (by omega) (by omega)), if_pos (show ¬ (Int8.ofInt (10)).toInt32 = 0 by decide), n_c10, n_div hn (by omega) (by omega), n_1, n_sub (by omega)]
    unfold fn_Md_link fn_Md_link_0
    rw [n_c20, n_mul, n_5, n_mul, n_add, n_add, if_pos (show md_in (Int32.ofNat (20 * i + 5 * (n % 10) + (n / 10 - 1))) (md_len 5) = true by rw [n_in (by omega), mL5]; omega), Option.bind_some, n_nat (by omega)]
    dsimp only
    unfold l_tell
    rcases (show n / 10 = 1 ∨ n / 10 = 2 ∨ n / 10 = 3 by omega) with e | e | e
    · rw [e, if_pos rfl, show 20 * i + 5 * (n % 10) + (1 - 1) = 20 * i + 5 * (n % 10) from rfl, q.1]
      exact m_val1 h rfl
    · rw [e, if_neg (show ¬ (2 : Nat) = 1 by decide), if_pos rfl, show 20 * i + 5 * (n % 10) + (2 - 1) = 20 * i + 5 * (n % 10) + 1 from rfl, q.2.1]
      exact m_val1 h rfl
    · rw [e, if_neg (show ¬ (3 : Nat) = 1 by decide), if_neg (show ¬ (3 : Nat) = 2 by decide), show 20 * i + 5 * (n % 10) + (3 - 1) = 20 * i + 5 * (n % 10) + 2 from rfl, q.2.2.1]
      exact m_val1 h rfl
  · rw [if_pos (n_leT (by omega) (by omega)), List.getElem?_eq_none (by omega)]
    exact m_thr h (h48 _ _) (by decide)
end TOK
