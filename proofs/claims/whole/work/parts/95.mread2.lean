/-! ### The reference's reader: the whole of it -/
def rb (S : MS) (t n sl : Nat) (x9 x11 : Nat → Int32) : MS := (va_up (va_up (va_up S.1 17 (Int32.ofNat (40 * t))) 18 (Int32.ofNat n)) 19 (Int32.ofNat sl), va_up (va_up S.2 11 x11) 9 x9)
def mc_rep (S : MS) (sl : Nat) (x : g_Cl) : Prop := S.2 9 sl = Int32.ofNat x.1 ∧ S.2 11 sl = (if x.2.1 = true then Int32.ofInt 1 else Int32.ofInt 0) ∧ S.2 12 sl = Int32.ofNat x.2.2.2.1.length ∧ (∀ y, x.2.2.1 = some y → am_rep (S.2 13) (16 * sl) y) ∧ (∀ i y, x.2.2.2.1[i]? = some y → am_rep (S.2 13) (16 * sl + 4 * (i + 1)) y) ∧ S.2 14 sl = Int32.ofNat x.2.2.2.2.length ∧ ∀ i y, x.2.2.2.2[i]? = some y → S.2 15 (48 * sl + i) = Int32.ofInt (g_enc y)
/-- what reading into the slot sl leaves as it was -/
def mf_rep (S S' : MS) (sl : Nat) : Prop := (∀ k, k ≠ 16 → k ≠ 17 → k ≠ 18 → k ≠ 19 → k ≠ 20 → k ≠ 26 → k ≠ 27 → k ≠ 31 → S'.1 k = S.1 k) ∧ (∀ j, j ≠ 9 → j ≠ 11 → j ≠ 12 → j ≠ 13 → j ≠ 14 → j ≠ 15 → j ≠ 16 → S'.2 j = S.2 j) ∧
  (∀ i, i ≠ sl → S'.2 9 i = S.2 9 i ∧ S'.2 11 i = S.2 11 i ∧ S'.2 12 i = S.2 12 i ∧ S'.2 14 i = S.2 14 i) ∧ (∀ i, i < 16 * sl ∨ 16 * sl + 16 ≤ i → S'.2 13 i = S.2 13 i) ∧ ∀ i, i < 48 * sl ∨ 48 * sl + 48 ≤ i → S'.2 15 i = S.2 15 i
theorem i32_nat (x : Int32) : ∃ s : Nat, x = Int32.ofNat s := ⟨x.toBitVec.toNat, by
  apply Int32.toBitVec_inj.mp
  rw [Int32.toBitVec_ofNat']
  simp⟩
section MR2
variable {N : Nat} {c : Nat → Nat} {n t sl : Nat} {S : MS} {p s : Nat} {w b o : Int32} {a12 a13 a14 a15 a16 x9 x11 : Nat → Int32}
theorem qs_v11 {y : Nat → Int32} : va_up (qs (rb S t n sl x9 x11) p w b o s a12 a13 a14 a15 a16).2 11 y = (qs (rb S t n sl x9 y) p w b o s a12 a13 a14 a15 a16).2 := by
  refine va_ext2 rfl fun j hj => ?_
  show (if j = 12 then a12 else if j = 13 then a13 else if j = 14 then a14 else if j = 15 then a15 else if j = 16 then a16 else (if j = 9 then x9 else if j = 11 then y else S.2 j)) = (if j = 12 then a12 else if j = 13 then a13 else if j = 14 then a14 else if j = 15 then a15 else if j = 16 then a16 else (if j = 9 then x9 else if j = 11 then x11 else S.2 j))
  simp only [if_neg hj]
theorem qs_v9 {y : Nat → Int32} : va_up (qs (rb S t n sl x9 x11) p w b o s a12 a13 a14 a15 a16).2 9 y = (qs (rb S t n sl y x11) p w b o s a12 a13 a14 a15 a16).2 := by
  refine va_ext2 rfl fun j hj => ?_
  show (if j = 12 then a12 else if j = 13 then a13 else if j = 14 then a14 else if j = 15 then a15 else if j = 16 then a16 else (if j = 9 then y else if j = 11 then x11 else S.2 j)) = (if j = 12 then a12 else if j = 13 then a13 else if j = 14 then a14 else if j = 15 then a15 else if j = 16 then a16 else (if j = 9 then x9 else if j = 11 then x11 else S.2 j))
  simp only [if_neg hj]
theorem qs_prb {u v : Nat → Int32} {p2 s2 : Nat} {w2 b2 o2 : Int32} {c12 c13 c14 c15 c16 : Nat → Int32} : ((qs (rb S t n sl x9 x11) p w b o s a12 a13 a14 a15 a16).1, (qs (rb S t n sl u v) p2 w2 b2 o2 s2 c12 c13 c14 c15 c16).2) = qs (rb S t n sl u v) p w b o s c12 c13 c14 c15 c16 := rfl
theorem rb_frame (h9 : ∀ i, i ≠ sl → x9 i = S.2 9 i) (h11 : ∀ i, i ≠ sl → x11 i = S.2 11 i) (h12 : ∀ i, i ≠ sl → a12 i = S.2 12 i) (h14 : ∀ i, i ≠ sl → a14 i = S.2 14 i) (h13 : ∀ i, i < 16 * sl ∨ 16 * sl + 16 ≤ i → a13 i = S.2 13 i) (h15 : ∀ i, i < 48 * sl ∨ 48 * sl + 48 ≤ i → a15 i = S.2 15 i) : mf_rep S (qs (rb S t n sl x9 x11) p w b o s a12 a13 a14 a15 a16) sl := by
  refine ⟨fun k k1 k2 k3 k4 k5 k6 k7 k8 => ?_, fun j j1 j2 j3 j4 j5 j6 j7 => ?_, fun i hi => ⟨h9 i hi, h11 i hi, h12 i hi, h14 i hi⟩, h13, h15⟩
  · show (if k = 16 then _ else if k = 20 then _ else if k = 26 then _ else if k = 27 then _ else if k = 31 then _ else (if k = 19 then _ else if k = 18 then _ else if k = 17 then _ else S.1 k)) = _
    simp only [if_neg k1, if_neg k2, if_neg k3, if_neg k4, if_neg k5, if_neg k6, if_neg k7, if_neg k8]
  · show (if j = 12 then _ else if j = 13 then _ else if j = 14 then _ else if j = 15 then _ else if j = 16 then _ else (if j = 9 then _ else if j = 11 then _ else S.2 j)) = _
    simp only [if_neg j1, if_neg j2, if_neg j3, if_neg j4, if_neg j5, if_neg j6, if_neg j7]
theorem m_315 (h6 : sl ≤ 30) {v : Int32} : fn_Md_read_315 N (Int32.ofNat sl) v (qs (rb S t n sl x9 x11) p w b o s a12 a13 a14 a15 a16) = some (v, qs (rb S t n sl (upd x9 sl v) x11) p w b o s a12 a13 a14 a15 a16) := by
  have h9 : md_in (Int32.ofNat sl) (md_len 9) = true := by rw [n_in (by omega)]; show sl < 31; omega
  unfold fn_Md_read_315
  dsimp only
  rw [if_pos h9, show (qs (rb S t n sl x9 x11) p w b o s a12 a13 a14 a15 a16).1 19 = Int32.ofNat sl from rfl, if_pos h9, n_nat (by omega), show (qs (rb S t n sl x9 x11) p w b o s a12 a13 a14 a15 a16).2 9 = x9 from rfl, qs_v9, qs_prb]
  show some (upd x9 sl v sl, _) = _
  rw [upd_eq]
theorem m_291 (h6 : sl ≤ 30) {x4 x : Int32} (hx : md_01 x = true) : fn_Md_read_291 N x4 x (qs (rb S t n sl x9 x11) p w b o s a12 a13 a14 a15 a16) = if x = 0 then some (x4, qs (rb S t n sl (upd x9 sl x4) x11) p x b o s a12 a13 a14 a15 a16) else some (Int32.ofInt (-1), qs (rb S t n sl (upd x9 sl (Int32.ofInt (-1))) x11) p x b o s a12 a13 a14 a15 a16) := by
  unfold fn_Md_read_291
  rw [if_pos hx, qs_s20, qs_g20, show (qs (rb S t n sl x9 x11) p x b o s a12 a13 a14 a15 a16).1 19 = Int32.ofNat sl from rfl, m_315 h6, m_315 h6]
theorem rb_ok (hn : n ≤ 40) (ht : t ≤ 95) (h6 : sl ≤ 30) (hc : ∀ i, i < n → S.2 1 (40 * t + i) = Int32.ofNat (c i) ∧ 32 ≤ c i ∧ c i ≤ 126) : q_ok c n t sl (rb S t n sl x9 x11) := ⟨rfl, rfl, rfl, hn, ht, h6, hc⟩
/-- the end of a reading -/
theorem m_252 (k : q_ok c n t sl (rb S t n sl x9 x11)) (hN : 60 ≤ N) (hp : p ≤ n) {kk : Nat} (hk : kk ≤ 5) (hm : kk = 0 → b = 0 ∧ o = 0) :
    if g_h c n p = 0 ∧ o &&& (b ^^^ (Int32.ofInt (-1))) = 0 then fn_Md_read_252 N (Int32.ofNat kk) (qs (rb S t n sl x9 x11) p (Int32.ofInt 0) b o s a12 a13 a14 a15 a16) = some (Int32.ofNat kk, qs (rb S t n sl (upd x9 sl (Int32.ofNat kk)) x11) (g_s c n p) (Int32.ofInt 0) b o s a12 a13 a14 a15 a16)
    else fn_Md_read_252 N (Int32.ofNat kk) (qs (rb S t n sl x9 x11) p (Int32.ofInt 0) b o s a12 a13 a14 a15 a16) = some (Int32.ofInt (-1), qs (rb S t n sl (upd x9 sl (Int32.ofInt (-1))) x11) (g_s c n p) (Int32.ofInt 1) b o s a12 a13 a14 a15 a16) := by
  have h6 := k.2.2.2.2.2.1
  have hh := q_h_le k p
  unfold fn_Md_read_252 fn_Md_read_290 fn_Md_read_286
  rw [qs_g20, if_pos n_e00, m_here k (by omega) (by omega), Option.bind_some]
  dsimp only
  rw [m_291 h6 n_b1, m_291 h6 n_b0, if_pos n_e00, if_neg n_ne10]
  rw [qs_g26, qs_g27]
  by_cases e1 : g_h c n p = 0
  · rw [if_pos (show Int32.ofNat (g_h c n p) = 0 by rw [e1]; rfl)]
    by_cases e3 : kk = 0
    · obtain ⟨rfl, rfl⟩ := hm e3
      subst e3
      rw [if_pos (show Int32.ofNat 0 ≤ 0 by decide), if_pos ⟨e1, by decide⟩]
    · rw [if_neg (show ¬ Int32.ofNat kk ≤ 0 from n_leF (b := 0) (by omega) (by omega))]
      by_cases e2 : o &&& (b ^^^ (Int32.ofInt (-1))) = 0
      · rw [if_pos e2, if_pos ⟨e1, e2⟩]
      · rw [if_neg e2, if_neg (fun q => e2 q.2)]
  · rw [if_neg (n_ne0 (by omega) (by omega)), if_neg (fun q => e1 q.1)]
theorem m_252w (h6 : sl ≤ 30) {x4 : Int32} : fn_Md_read_252 N x4 (qs (rb S t n sl x9 x11) p (Int32.ofInt 1) b o s a12 a13 a14 a15 a16) = some (Int32.ofInt (-1), qs (rb S t n sl (upd x9 sl (Int32.ofInt (-1))) x11) p (Int32.ofInt 1) b o s a12 a13 a14 a15 a16) := by
  unfold fn_Md_read_252 fn_Md_read_286
  rw [qs_g20, if_neg n_ne10, m_291 h6 n_b1, if_neg n_ne10]
end MR2
