/-! ### The reference's reader says what the grammar says -/
def mr_sp (S : MS) (sl : Nat) (R : Option g_Cl) (F : Option (Int32 × MS)) : Prop := match R with
  | some x => ∃ S', F = some (Int32.ofNat x.1, S') ∧ mc_rep S' sl x ∧ mf_rep S S' sl
  | none => ∃ S', F = some (Int32.ofInt (-1), S') ∧ S'.2 9 sl = Int32.ofInt (-1) ∧ mf_rep S S' sl
theorem and_not0 (x : Int32) : x &&& (0 ^^^ (Int32.ofInt (-1))) = x := by
  apply Int32.toBitVec_inj.mp
  rw [Int32.toBitVec_and, Int32.toBitVec_xor]
  show x.toBitVec &&& (0#32 ^^^ BitVec.ofInt 32 (-1)) = x.toBitVec
  rw [show (0#32 ^^^ BitVec.ofInt 32 (-1)) = BitVec.allOnes 32 by decide, BitVec.and_allOnes]
section MR3
variable {N : Nat} {c : Nat → Nat} {n t sl : Nat} {S : MS} {p s : Nat} {a12 a13 a14 a15 a16 x9 x11 : Nat → Int32}
/-- the frame of all arrays that reading writes -/
def mfa (S : MS) (sl : Nat) (a12 a13 a14 a15 x9 x11 : Nat → Int32) : Prop := (∀ i, i ≠ sl → x9 i = S.2 9 i) ∧ (∀ i, i ≠ sl → x11 i = S.2 11 i) ∧ (∀ i, i ≠ sl → a12 i = S.2 12 i) ∧ (∀ i, i ≠ sl → a14 i = S.2 14 i) ∧ (∀ i, i < 16 * sl ∨ 16 * sl + 16 ≤ i → a13 i = S.2 13 i) ∧ ∀ i, i < 48 * sl ∨ 48 * sl + 48 ≤ i → a15 i = S.2 15 i
theorem mfa_f (h : mfa S sl a12 a13 a14 a15 x9 x11) {p s : Nat} {w b o : Int32} {a16 : Nat → Int32} {v : Int32} : mf_rep S (qs (rb S t n sl (upd x9 sl v) x11) p w b o s a12 a13 a14 a15 a16) sl :=
  rb_frame (fun i hi => by rw [upd_ne hi, h.1 i hi]) h.2.1 h.2.2.1 h.2.2.2.1 h.2.2.2.2.1 h.2.2.2.2.2
theorem m_fail (h : mfa S sl a12 a13 a14 a15 x9 x11) (h6 : sl ≤ 30) {p s : Nat} {b o : Int32} {a16 : Nat → Int32} {x4 : Int32} : mr_sp S sl none (fn_Md_read_252 N x4 (qs (rb S t n sl x9 x11) p (Int32.ofInt 1) b o s a12 a13 a14 a15 a16)) :=
  ⟨_, m_252w h6, upd_eq _ _ _, mfa_f h⟩
theorem m_gend (k : ∀ x9 x11, q_ok c n t sl (rb S t n sl x9 x11)) (hN : 60 ≤ N) (hp : p ≤ n) {kk : Nat} (hk : kk ≤ 5) {b o : Int32} (hm : kk = 0 → b = 0 ∧ o = 0) (st : Bool) (hst : x11 sl = if st = true then Int32.ofInt 1 else Int32.ofInt 0) {hd : Option g_A} {as : List g_A} {l : List Int} (h12 : a12 sl = Int32.ofNat as.length) (hhd : ∀ y, hd = some y → am_rep a13 (16 * sl) y) (has : ∀ i y, as[i]? = some y → am_rep a13 (16 * sl + 4 * (i + 1)) y) (h14 : a14 sl = Int32.ofNat l.length) (h15 : ∀ i y, l[i]? = some y → a15 (48 * sl + i) = Int32.ofInt (g_enc y)) (hf : mfa S sl a12 a13 a14 a15 x9 x11) :
    mr_sp S sl (g_end c n kk hd as l o b st p) (fn_Md_read_252 N (Int32.ofNat kk) (qs (rb S t n sl x9 x11) p (Int32.ofInt 0) b o s a12 a13 a14 a15 a16)) := by
  have key := m_252 (N := N) (s := s) (b := b) (o := o) (a12 := a12) (a13 := a13) (a14 := a14) (a15 := a15) (a16 := a16) (k x9 x11) hN hp hk hm
  unfold g_end
  by_cases e : g_h c n p = 0 ∧ o &&& (b ^^^ (Int32.ofInt (-1))) = 0
  · rw [if_pos e] at key
    rw [if_pos e.1, if_pos e.2, key]
    exact ⟨_, rfl, ⟨upd_eq _ _ _, hst, h12, hhd, has, h14, h15⟩, mfa_f hf⟩
  · rw [if_neg e] at key
    have : (if g_h c n p = 0 then (if o &&& (b ^^^ (Int32.ofInt (-1))) = 0 then some ((kk, st, hd, as, l) : g_Cl) else none) else none) = none := by
      by_cases e1 : g_h c n p = 0
      · rw [if_pos e1, if_neg (fun q => e ⟨e1, q⟩)]
      · rw [if_neg e1]
    rw [this, key]
    exact ⟨_, rfl, upd_eq _ _ _, mfa_f hf⟩
theorem nar0 : vp_nar .boolean (Int32.ofInt 0) = Int32.ofInt 0 := by decide
theorem nar1 : vp_nar .boolean (Int32.ofInt 1) = Int32.ofInt 1 := by decide
theorem m_tail (k : ∀ x9 x11, q_ok c n t sl (rb S t n sl x9 x11)) (hN : 60 ≤ N) (hp : p ≤ n) {kk : Nat} (hk1 : 1 ≤ kk) (hk : kk ≤ 5) {o : Int32} {hd : Option g_A} (h12 : a12 sl = Int32.ofNat 0) (hhd : ∀ y, hd = some y → am_rep a13 (16 * sl) y) (h14 : a14 sl = Int32.ofNat 0) (hf : mfa S sl a12 a13 a14 a15 x9 x11) :
    mr_sp S sl (g_tail c n kk hd o p) (fn_Md_read_221 N (Int32.ofNat kk) (qs (rb S t n sl x9 x11) p (Int32.ofInt 0) 0 o s a12 a13 a14 a15 a16)) := by
  have h6 := (k x9 x11).2.2.2.2.2.1
  have h11 : md_in (Int32.ofNat sl) (md_len 11) = true := by rw [n_in (by omega)]; show sl < 31; omega
  have kb := m_body (N := N) (s := s) (b := 0) (o := o) (a13 := a13) (a15 := a15) (a16 := a16) (k x9 x11) hN hp h12 h14
  unfold fn_Md_read_221 g_tail
  rw [if_neg (show ¬ Int32.ofNat kk ≤ 0 from n_leF (b := 0) (by omega) (by omega)), qs_g20, if_pos n_e00]
  cases e1 : g_bd c n o 3 p [] 0 with
  | none =>
    rw [e1] at kb
    obtain ⟨q, b', o', s', b12, b13, b14, b15, b16, hq, kb, kf, bf⟩ := kb
    rw [kb, Option.bind_some, Option.bind_none]
    dsimp only
    have hf2 : ∀ v, mfa S sl b12 b13 b14 b15 x9 (upd x11 sl v) := fun v => ⟨hf.1, fun i hi => by rw [upd_ne hi, hf.2.1 i hi], fun i hi => by rw [bf.1 i hi, hf.2.2.1 i hi], fun i hi => by rw [kf.1 i hi, hf.2.2.2.1 i hi], fun i hi => by rw [bf.2 i (by omega), hf.2.2.2.2.1 i hi], fun i hi => by rw [kf.2 i hi, hf.2.2.2.2.2 i hi]⟩
    rw [n_c42, m_next (k x9 x11) (by omega) hq (by omega)]
    cases e2 : g_t c n q 42 with
    | none =>
      simp only [Option.bind_some]
      rw [show (qs (rb S t n sl x9 x11) q (Int32.ofInt 1) b' o' s' b12 b13 b14 b15 b16).1 19 = Int32.ofNat sl from rfl, if_pos h11, n_nat (by omega), show (qs (rb S t n sl x9 x11) (g_s c n q) (Int32.ofInt 1) b' o' s' b12 b13 b14 b15 b16).2 11 = x11 from rfl, qs_v11, qs_prb]
      exact m_fail (hf2 _) h6
    | some q2 =>
      simp only [Option.bind_some]
      rw [show (qs (rb S t n sl x9 x11) q (Int32.ofInt 1) b' o' s' b12 b13 b14 b15 b16).1 19 = Int32.ofNat sl from rfl, if_pos h11, n_nat (by omega), show (qs (rb S t n sl x9 x11) q2 (Int32.ofInt 1) b' o' s' b12 b13 b14 b15 b16).2 11 = x11 from rfl, qs_v11, qs_prb]
      exact m_fail (hf2 _) h6
  | some r =>
    rw [e1] at kb
    obtain ⟨s', b12, b13, b14, b15, b16, kb, kc, bm⟩ := kb
    have hb := g_bd_ok 3 p [] 0 r hp e1
    rw [kb, Option.bind_some, Option.bind_some]
    dsimp only
    have hf2 : ∀ v, mfa S sl b12 b13 b14 b15 x9 (upd x11 sl v) := fun v => ⟨hf.1, fun i hi => by rw [upd_ne hi, hf.2.1 i hi], fun i hi => by rw [bm.2.2.1 i hi, hf.2.2.1 i hi], fun i hi => by rw [kc.2.2.1 i hi, hf.2.2.2.1 i hi], fun i hi => by rw [bm.2.2.2 i (by omega), hf.2.2.2.2.1 i hi], fun i hi => by rw [kc.2.2.2 i hi, hf.2.2.2.2.2 i hi]⟩
    have hhd2 : ∀ y, hd = some y → am_rep b13 (16 * sl) y := by
      intro y hy
      obtain ⟨q1, q2, q3, q4⟩ := hhd y hy
      exact ⟨by rw [bm.2.2.2 _ (by omega), q1], by rw [bm.2.2.2 _ (by omega), q2], fun z => by rw [bm.2.2.2 _ (by omega), q3 z], fun z => by rw [bm.2.2.2 _ (by omega), q4 z]⟩
    rw [n_c42, m_next (k x9 x11) (by omega) (by omega) (by omega)]
    cases e2 : g_t c n r.2.1 42 with
    | none =>
      simp only [Option.bind_some]
      rw [show (qs (rb S t n sl x9 x11) r.2.1 (Int32.ofInt 0) r.1.2 r.2.2.2 s' b12 b13 b14 b15 b16).1 19 = Int32.ofNat sl from rfl, if_pos h11, n_nat (by omega), show (qs (rb S t n sl x9 x11) (g_s c n r.2.1) (Int32.ofInt 0) r.1.2 r.2.2.2 s' b12 b13 b14 b15 b16).2 11 = x11 from rfl, qs_v11, qs_prb, nar0]
      exact m_gend k hN (g_s_le (c := c) hb.2.1).2 hk (fun q => absurd q (by omega)) false (upd_eq _ _ _) bm.1 hhd2 bm.2.1 kc.1 kc.2.1 (hf2 _)
    | some q2 =>
      simp only [Option.bind_some]
      rw [show (qs (rb S t n sl x9 x11) r.2.1 (Int32.ofInt 0) r.1.2 r.2.2.2 s' b12 b13 b14 b15 b16).1 19 = Int32.ofNat sl from rfl, if_pos h11, n_nat (by omega), show (qs (rb S t n sl x9 x11) q2 (Int32.ofInt 0) r.1.2 r.2.2.2 s' b12 b13 b14 b15 b16).2 11 = x11 from rfl, qs_v11, qs_prb, nar1]
      exact m_gend k hN (g_t_ok hb.2.1 (by decide) e2).2 hk (fun q => absurd q (by omega)) true (upd_eq _ _ _) bm.1 hhd2 bm.2.1 kc.1 kc.2.1 (hf2 _)
/-- the reader begins -/
theorem m_read0 (h2 : S.2 2 t = Int32.ofNat n) (ht : t ≤ 95) (h6 : sl ≤ 30) (hs : S.1 31 = Int32.ofNat s) : fn_Md_read N (Int32.ofNat t) (Int32.ofNat sl) S = (fn_Md_here N (qs (rb S t n sl (S.2 9) (upd (S.2 11) sl (Int32.ofInt 0))) 0 (Int32.ofInt 0) 0 0 s (upd (S.2 12) sl (Int32.ofNat 0)) (S.2 13) (upd (S.2 14) sl (Int32.ofNat 0)) (S.2 15) (S.2 16))).bind fun r1 => if r1.1 = (Int8.ofInt (63)).toInt32 then fn_Md_read_119 N (Int32.ofInt 2) r1.2 else if r1.1 = (Int8.ofInt (33)).toInt32 then fn_Md_read_119 N (Int32.ofInt 3) r1.2 else if r1.1 = (Int8.ofInt (43)).toInt32 then fn_Md_read_119 N (Int32.ofInt 4) r1.2 else if r1.1 = (Int8.ofInt (45)).toInt32 then fn_Md_read_119 N (Int32.ofInt 5) r1.2 else fn_Md_read_119 N (Int32.ofInt 0) r1.2 := by
  have c1 : md_in (Int32.ofNat t) (md_len 2) = true := by rw [n_in (by omega)]; show t < 96; omega
  have c2 : md_in (Int32.ofNat sl) 31 = true := by rw [n_in (by omega)]; omega
  have key : ∀ (st st' : MS) (F : Int32 × MS → Option (Int32 × MS)), st = st' → (fn_Md_here N st).bind F = (fn_Md_here N st').bind F := by
    intro st st' F h; rw [h]
  unfold fn_Md_read fn_Md_read_0
  refine (if_pos c1).trans ?_
  refine (if_pos n_b0).trans ?_
  refine (if_pos c2).trans ?_
  refine (if_pos c2).trans ?_
  refine (if_pos c2).trans ?_
  refine key _ _ _ ?_
  have et : (Int32.ofNat t).toNatClampNeg = t := n_nat (by omega)
  have es : (Int32.ofNat sl).toNatClampNeg = sl := n_nat (by omega)
  have e40 : (Int8.ofInt (40)).toInt32 * Int32.ofNat t = Int32.ofNat (40 * t) := by rw [n_c40, n_mul]
  refine Prod.ext (funext fun k => ?_) (funext fun j => ?_)
  · by_cases k16 : k = 16
    · subst k16; rfl
    by_cases k17 : k = 17
    · subst k17; exact e40
    by_cases k18 : k = 18
    · subst k18
      show S.2 2 (Int32.ofNat t).toNatClampNeg = Int32.ofNat n
      rw [et, h2]
    by_cases k19 : k = 19
    · subst k19; rfl
    by_cases k20 : k = 20
    · subst k20; rfl
    by_cases k26 : k = 26
    · subst k26; rfl
    by_cases k27 : k = 27
    · subst k27; rfl
    by_cases k31 : k = 31
    · subst k31; exact hs
    · show (if k = 27 then _ else if k = 26 then _ else if k = 20 then _ else if k = 16 then _ else if k = 19 then _ else if k = 18 then _ else if k = 17 then _ else S.1 k) = (if k = 16 then _ else if k = 20 then _ else if k = 26 then _ else if k = 27 then _ else if k = 31 then _ else (if k = 19 then _ else if k = 18 then _ else if k = 17 then _ else S.1 k))
      simp only [if_neg k16, if_neg k17, if_neg k18, if_neg k19, if_neg k20, if_neg k26, if_neg k27, if_neg k31]
  · by_cases j11 : j = 11
    · subst j11
      show upd (S.2 11) (Int32.ofNat sl).toNatClampNeg (vp_nar .boolean (Int32.ofInt 0)) = upd (S.2 11) sl (Int32.ofInt 0)
      rw [es, nar0]
    by_cases j12 : j = 12
    · subst j12
      show upd (S.2 12) (Int32.ofNat sl).toNatClampNeg (Int32.ofInt 0) = upd (S.2 12) sl (Int32.ofNat 0)
      rw [es]; rfl
    by_cases j14 : j = 14
    · subst j14
      show upd (S.2 14) (Int32.ofNat sl).toNatClampNeg (Int32.ofInt 0) = upd (S.2 14) sl (Int32.ofNat 0)
      rw [es]; rfl
    · show (if j = 11 then _ else if j = 14 then _ else if j = 12 then _ else S.2 j) = (if j = 12 then _ else if j = 13 then S.2 13 else if j = 14 then _ else if j = 15 then S.2 15 else if j = 16 then S.2 16 else (if j = 9 then S.2 9 else if j = 11 then _ else S.2 j))
      rw [if_neg j11, if_neg j14, if_neg j12, if_neg j12]
      by_cases j13 : j = 13
      · subst j13; rfl
      rw [if_neg j13, if_neg j14]
      by_cases j15 : j = 15
      · subst j15; rfl
      rw [if_neg j15]
      by_cases j16 : j = 16
      · subst j16; rfl
      rw [if_neg j16]
      by_cases j9 : j = 9
      · subst j9; rfl
      rw [if_neg j9, if_neg j11]
end MR3
