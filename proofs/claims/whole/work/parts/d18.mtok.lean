/-! ### The reference's tokens -/
def set5 (a : Nat → Int32) (q : Nat) (l : w_K) : Nat → Int32 := upd (upd (upd (upd (upd a q l.1) (q + 1) l.2.1) (q + 2) l.2.2.1) (q + 3) l.2.2.2.1) (q + 4) l.2.2.2.2
theorem set5_at (a : Nat → Int32) (q : Nat) (l : w_K) : lk5 (set5 a q l) q l := by
  unfold set5 lk5
  refine ⟨?_, ?_, ?_, ?_, ?_⟩
  · rw [upd_ne (by omega), upd_ne (by omega), upd_ne (by omega), upd_ne (by omega), upd_eq]
  · rw [upd_ne (by omega), upd_ne (by omega), upd_ne (by omega), upd_eq]
  · rw [upd_ne (by omega), upd_ne (by omega), upd_eq]
  · rw [upd_ne (by omega), upd_eq]
  · rw [upd_eq]
theorem set5_ne {a : Nat → Int32} {q j : Nat} {l : w_K} (h : j < q ∨ q + 5 ≤ j) : set5 a q l j = a j := by
  unfold set5
  rw [upd_ne (by omega), upd_ne (by omega), upd_ne (by omega), upd_ne (by omega), upd_ne (by omega)]
theorem lk5_ext {a b : Nat → Int32} {q : Nat} {l : w_K} (h : ∀ j, q ≤ j → j < q + 5 → b j = a j) (r : lk5 a q l) : lk5 b q l := by
  obtain ⟨r1, r2, r3, r4, r5⟩ := r
  exact ⟨(h _ (by omega) (by omega)).trans r1, (h _ (by omega) (by omega)).trans r2, (h _ (by omega) (by omega)).trans r3, (h _ (by omega) (by omega)).trans r4, (h _ (by omega) (by omega)).trans r5⟩
def cp20 (a : Nat → Int32) (t u k : Nat) : Nat → Int32 := fun q => if 20 * u ≤ q ∧ q < 20 * u + k then a (20 * t + (q - 20 * u)) else a q
theorem cp20_0 (a : Nat → Int32) (t u : Nat) : cp20 a t u 0 = a := by
  funext q
  exact if_neg (by omega)
theorem cp20_s {a : Nat → Int32} {t u k : Nat} (hne : t ≠ u) (hk : k < 20) : upd (cp20 a t u k) (20 * u + k) (cp20 a t u k (20 * t + k)) = cp20 a t u (k + 1) := by
  have e0 : cp20 a t u k (20 * t + k) = a (20 * t + k) := if_neg (by omega)
  rw [e0]
  funext q
  by_cases e : q = 20 * u + k
  · rw [e, upd_eq]
    show _ = if 20 * u ≤ 20 * u + k ∧ 20 * u + k < 20 * u + (k + 1) then a (20 * t + (20 * u + k - 20 * u)) else _
    rw [if_pos (by omega)]
    congr 1
    omega
  · rw [upd_ne e]
    show (if 20 * u ≤ q ∧ q < 20 * u + k then a (20 * t + (q - 20 * u)) else a q) = if 20 * u ≤ q ∧ q < 20 * u + (k + 1) then a (20 * t + (q - 20 * u)) else a q
    by_cases e2 : 20 * u ≤ q ∧ q < 20 * u + k
    · rw [if_pos e2, if_pos (by omega)]
    · rw [if_neg e2, if_neg (by omega)]
theorem cp20_ne {a : Nat → Int32} {t u q : Nat} (h : q < 20 * u ∨ 20 * u + 20 ≤ q) : cp20 a t u 20 q = a q := if_neg (by omega)
theorem cp20_lk {a : Nat → Int32} {t u k : Nat} {l : w_K} (hk : k ≤ 3) (r : lk5 a (20 * t + 5 * k) l) : lk5 (cp20 a t u 20) (20 * u + 5 * k) l := by
  have e : ∀ j, j < 5 → cp20 a t u 20 (20 * u + 5 * k + j) = a (20 * t + 5 * k + j) := fun j hj => by
    show (if 20 * u ≤ 20 * u + 5 * k + j ∧ 20 * u + 5 * k + j < 20 * u + 20 then a (20 * t + (20 * u + 5 * k + j - 20 * u)) else _) = _
    rw [if_pos (by omega)]
    congr 1
    omega
  obtain ⟨r1, r2, r3, r4, r5⟩ := r
  exact ⟨(e 0 (by omega)).trans r1, (e 1 (by omega)).trans r2, (e 2 (by omega)).trans r3, (e 3 (by omega)).trans r4, (e 4 (by omega)).trans r5⟩
theorem vp_jb (b : Bool) : vp_nar .boolean (j_b b) = j_b b := by cases b <;> rfl
/-- one token more -/
theorem mT_snoc {a4 a5 a6 a7 a8 b4 b5 b6 b7 b8 : Nat → Int32} {Ts : List w_T} {T : w_T} (h : mT a4 a5 a6 a7 a8 Ts) (hL : ∀ T, T ∈ Ts → T.1.length ≤ 4) (h4 : ∀ t, t < Ts.length → b4 t = a4 t ∧ b6 t = a6 t ∧ b7 t = a7 t ∧ b8 t = a8 t) (h5 : ∀ q, q < 20 * Ts.length → b5 q = a5 q) (h1 : mT1 b4 b5 b6 b7 b8 Ts.length T) (h8 : ∀ t, Ts.length < t → b8 t = a8 t) : mT b4 b5 b6 b7 b8 (Ts ++ [T]) := by
  obtain ⟨k1, k2⟩ := h
  refine ⟨fun t T' ht => ?_, fun t ht => ?_⟩
  · by_cases e : t < Ts.length
    · rw [List.getElem?_append_left e] at ht
      obtain ⟨r1, r2, r3, r4, r5⟩ := k1 t T' ht
      obtain ⟨q1, q2, q3, q4⟩ := h4 t e
      have hl := hL T' (List.mem_of_getElem? ht)
      refine ⟨q1.trans r1, q2.trans r2, q3.trans r3, q4.trans r4, fun k l hk => lk5_ext (fun j _ hj => h5 j ?_) (r5 k l hk)⟩
      have := (List.getElem?_eq_some_iff.mp hk).1
      omega
    · have hi : t = Ts.length := by
        have := (List.getElem?_eq_some_iff.mp ht).1
        rw [List.length_append] at this
        have h' : t < Ts.length + 1 := this
        omega
      subst hi
      rw [List.getElem?_append_right (Nat.le_refl _), Nat.sub_self] at ht
      cases ht
      exact h1
  · rw [List.length_append] at ht
    have ht : Ts.length + 1 ≤ t := ht
    rw [h8 t (by omega)]
    exact k2 t (by omega)
section MTK
variable {N : Nat} {S : MS} {th : Int32} {de bl ke to : Nat} {a1 a2 a3 a4 a5 a6 a7 a8 : Nat → Int32}
theorem m_setLink {t k : Nat} (ht : t ≤ 16) (hk : k ≤ 3) (b n y : Int32) : fn_Md_setLink N (Int32.ofNat t) (Int32.ofNat k) b n y (ts S th de bl ke to a1 a2 a3 a4 a5 a6 a7 a8) = some (0, ts S th de bl ke to a1 a2 a3 a4 (set5 a5 (20 * t + 5 * k) (b, n, y, b, n)) a6 a7 a8) := by
  have i0 : md_in (Int32.ofNat (20 * t + 5 * k)) (md_len 5) = true := by rw [n_in (by omega), mL5]; omega
  have i1 : md_in (Int32.ofNat (20 * t + 5 * k + 1)) (md_len 5) = true := by rw [n_in (by omega), mL5]; omega
  have i2 : md_in (Int32.ofNat (20 * t + 5 * k + 2)) (md_len 5) = true := by rw [n_in (by omega), mL5]; omega
  have i3 : md_in (Int32.ofNat (20 * t + 5 * k + 3)) (md_len 5) = true := by rw [n_in (by omega), mL5]; omega
  have i4 : md_in (Int32.ofNat (20 * t + 5 * k + 4)) (md_len 5) = true := by rw [n_in (by omega), mL5]; omega
  unfold fn_Md_setLink fn_Md_setLink_0
  simp only [n_c20, n_5, n_mul, n_add, n_1, n_2, n_3, n_4, i0, i1, i2, i3, i4, if_true, n_nat (show 20 * t + 5 * k < 2147483648 by omega), n_nat (show 20 * t + 5 * k + 1 < 2147483648 by omega), n_nat (show 20 * t + 5 * k + 2 < 2147483648 by omega), n_nat (show 20 * t + 5 * k + 3 < 2147483648 by omega), n_nat (show 20 * t + 5 * k + 4 < 2147483648 by omega), ts_h5, ts_v5, ts_pr]
  rfl
theorem m_like (hN : 60 ≤ N) {t : Nat} (ht : t < to) (hto : to ≤ 16) {sb : Bool} (h6 : a6 t = j_b sb) : fn_Md_like N (Int32.ofNat t) (ts S th de bl ke to a1 a2 a3 a4 a5 a6 a7 a8) = some (Int32.ofNat to, ts S th de bl ke (to + 1) a1 a2 a3 (upd a4 to (a4 t)) (cp20 a5 t to 20) (upd a6 to (a6 t)) (upd a7 to (a7 t)) (upd a8 to (a8 t))) := by
  have it4 : md_in (Int32.ofNat t) (md_len 4) = true := by rw [n_in (by omega), mL4]; omega
  have iu4 : md_in (Int32.ofNat to) (md_len 4) = true := by rw [n_in (by omega), mL4]; omega
  have it6 : md_in (Int32.ofNat t) (md_len 6) = true := by rw [n_in (by omega), mL6]; omega
  have iu6 : md_in (Int32.ofNat to) (md_len 6) = true := by rw [n_in (by omega), mL6]; omega
  have it7 : md_in (Int32.ofNat t) (md_len 7) = true := by rw [n_in (by omega), mL7]; omega
  have iu7 : md_in (Int32.ofNat to) (md_len 7) = true := by rw [n_in (by omega), mL7]; omega
  have it8 : md_in (Int32.ofNat t) (md_len 8) = true := by rw [n_in (by omega), mL8]; omega
  have iu8 : md_in (Int32.ofNat to) (md_len 8) = true := by rw [n_in (by omega), mL8]; omega
  have nt : (Int32.ofNat t).toNatClampNeg = t := n_nat (by omega)
  have nu : (Int32.ofNat to).toNatClampNeg = to := n_nat (by omega)
  have go : ∀ (n d k : Nat), k + n = 20 → n < d → fn_Md_like_2 N d (Int32.ofNat t) (Int32.ofNat k) (ts S th de bl ke to a1 a2 a3 a4 (cp20 a5 t to k) a6 a7 a8) = some (Int32.ofNat to, ts S th de bl ke (to + 1) a1 a2 a3 (upd a4 to (a4 t)) (cp20 a5 t to 20) (upd a6 to (a6 t)) (upd a7 to (a7 t)) (upd a8 to (a8 t))) := by
    intro n
    induction n with
    | zero =>
      intro d k hk hd
      obtain ⟨d, rfl⟩ : ∃ d', d = d' + 1 := ⟨d - 1, by omega⟩
      obtain rfl : k = 20 := by omega
      rw [fe_Md_like_2, n_c20, if_pos (n_leT (Nat.le_refl _) (by omega))]
      simp only [it4, it6, it7, it8, ts_g9, iu4, iu6, iu7, iu8, if_true, nt, nu, ts_h4, ts_v4, ts_pr, ts_h6, h6, vp_jb, ts_v6, ts_h7, ts_v7, ts_h8, ts_v8, n_1, n_add, ts_u9]
      have hsub : Int32.ofNat (to + 1) - Int32.ofNat 1 = Int32.ofNat to := by rw [n_sub (by omega)]; rfl
      rw [hsub]
    | succ n ih =>
      intro d k hk hd
      obtain ⟨d, rfl⟩ : ∃ d', d = d' + 1 := ⟨d - 1, by omega⟩
      rw [fe_Md_like_2, n_c20, if_neg (n_leF (by omega) (by omega))]
      have ia : md_in (Int32.ofNat (20 * t + k)) (md_len 5) = true := by rw [n_in (by omega), mL5]; omega
      have ib : md_in (Int32.ofNat (20 * to + k)) (md_len 5) = true := by rw [n_in (by omega), mL5]; omega
      simp only [n_mul, n_add, ts_g9, ia, ib, if_true, n_nat (show 20 * t + k < 2147483648 by omega), n_nat (show 20 * to + k < 2147483648 by omega), ts_h5, ts_v5, ts_pr, cp20_s (show t ≠ to by omega) (show k < 20 by omega), n_1]
      exact ih d (k + 1) (by omega) (by omega)
  have key := go 20 N 0 (by omega) (by omega)
  rw [cp20_0] at key
  unfold fn_Md_like fn_Md_like_0
  rw [n_0]
  exact key
end MTK
theorem mB_close {a1 a2 a3 b1 b2 : Nat → Int32} {M : List g_Cl} {Bs : List (List g_Cl)} {D : List g_Cl} (h : mB a1 a2 a3 M Bs D) (hM : M.length ≤ 5) (hB : Bs.length < 16) (hL : ∀ L, L ∈ Bs → L.length ≤ 5) (hD : D.length ≤ 10) (hc : cl_tx a1 a2 b1 b2 (5 * (Bs.length + 1)) M.length) : mB b1 b2 (upd (upd a3 (Bs.length + 1) (Int32.ofNat M.length)) 0 (Int32.ofNat 0)) [] (Bs ++ [M]) D := by
  obtain ⟨h1, h2, h3, h4⟩ := h
  obtain ⟨c1, c2, c3, c4⟩ := hc
  refine ⟨upd_eq _ _ _, (fun i x hx => by cases hx), fun b L hb => ?_, fun i y hy => ?_⟩
  · by_cases e : b < Bs.length
    · rw [List.getElem?_append_left e] at hb
      have hl5 := hL L (List.mem_of_getElem? hb)
      obtain ⟨q1, q2⟩ := h3 b L hb
      refine ⟨by rw [upd_ne (by omega), upd_ne (by omega)]; exact q1, fun i y hy => ?_⟩
      have := (List.getElem?_eq_some_iff.mp hy).1
      exact c2 _ _ (by omega) (q2 i y hy)
    · have hi : b = Bs.length := by
        have := (List.getElem?_eq_some_iff.mp hb).1
        rw [List.length_append] at this
        have h' : b < Bs.length + 1 := this
        omega
      subst hi
      rw [List.getElem?_append_right (Nat.le_refl _), Nat.sub_self] at hb
      cases hb
      refine ⟨by rw [upd_ne (by omega), upd_eq], fun i y hy => ?_⟩
      have := (List.getElem?_eq_some_iff.mp hy).1
      exact c1 i y this (h2 i y hy)
  · have := (List.getElem?_eq_some_iff.mp hy).1
    exact c2 _ _ (by omega) (h4 i y hy)
