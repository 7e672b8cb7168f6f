/-! ### The reference's bindings -/
def m_W (add : Bool) (most : Nat) (x : g_Cl) (w : j_W) (L : List (Int32 × (Nat → Int32))) : j_W := if add = true then L.foldl (j_add most x) w else w
def m_Fl (x : g_Cl) (f : j_F) (L : List (Int32 × (Nat → Int32))) : j_F := L.foldl (j_fl1 x) f
theorem m_W_app (add : Bool) (most : Nat) (x : g_Cl) (w : j_W) (L1 L2 : List (Int32 × (Nat → Int32))) : m_W add most x w (L1 ++ L2) = m_W add most x (m_W add most x w L1) L2 := by
  unfold m_W
  cases add with
  | true => rw [if_pos rfl, if_pos rfl, if_pos rfl, List.foldl_append]
  | false => rfl
theorem m_Fl_app (x : g_Cl) (f : j_F) (L1 L2 : List (Int32 × (Nat → Int32))) : m_Fl x f (L1 ++ L2) = m_Fl x (m_Fl x f L1) L2 := List.foldl_append
theorem j_add_pre {room : Nat} {x : g_Cl} {F : List j_R} {w : j_W} {oc : Int32 × (Nat → Int32)} (h : j_pre F w.1) : j_pre F (j_add room x w oc).1 := by
  unfold j_add
  split
  · split
    · exact h
    · exact j_off_pre h
  · exact h
theorem m_W_nil (add : Bool) (most : Nat) (x : g_Cl) (w : j_W) : m_W add most x w [] = w := by cases add <;> rfl
theorem m_W_one (add : Bool) (most : Nat) (x : g_Cl) (w : j_W) (oc : Int32 × (Nat → Int32)) : m_W add most x w [oc] = if add = true then j_add most x w oc else w := rfl
def bc (f : Nat) : Nat → Nat → Nat
  | 0, n => n + 1
  | l + 1, n => n * (1 + bc f l f) + 1
theorem bc0 (f n : Nat) : bc f 0 n = n + 1 := rfl
theorem bcs (f l n : Nat) : bc f (l + 1) n = n * (1 + bc f l f) + 1 := rfl
theorem n_up {i : Nat} : Int32.ofInt ((i : Int) - 1) + Int32.ofInt 1 = Int32.ofNat i := by
  rw [← Int32.ofInt_add]
  show _ = Int32.ofInt (i : Int)
  congr 1
  omega
theorem n_dn {k : Nat} (h : 1 ≤ k) : Int32.ofNat k + Int32.ofInt (-1) = Int32.ofNat (k - 1) := by
  show Int32.ofInt (k : Int) + _ = Int32.ofInt ((k - 1 : Nat) : Int)
  rw [← Int32.ofInt_add]
  congr 1
  omega
section MBI
variable {N : Nat} {S : MS} {od rn : Nat} {uf : Int32}
theorem m_b36 {fc : Nat} {an ho fs al : Int32} {a17 a18 a19 a20 a21 : Nat → Int32} {c k i d : Nat} {x2 : Int32} (hk : 1 ≤ k ∧ k ≤ 3) (hi : i ≤ 30) (hod : od ≤ 30) (h18 : a18 k = Int32.ofInt ((i : Int) - 1)) : fn_Md_bindings_36 N (d + 1) (Int32.ofNat c) x2 (Int32.ofNat k) (ks S fc od rn uf an ho fs al a17 a18 a19 a20 a21) = if i < od then (fn_Md_fit N (Int32.ofNat c) (Int32.ofNat k) (Int32.ofNat i) (ks S fc od rn uf an ho fs al a17 (upd a18 k (Int32.ofNat i)) a19 a20 a21)).bind fun r1 => if r1.1 = 0 then fn_Md_bindings_36 N d (Int32.ofNat c) x2 (Int32.ofNat k) r1.2 else (if md_in (Int32.ofNat c) (md_len 12) = true then (if r1.2.2 12 (Int32.ofNat c).toNatClampNeg ≤ Int32.ofNat k then (fn_Md_complete N (Int32.ofNat c) x2 r1.2).bind fun r2 => fn_Md_bindings_36 N d (Int32.ofNat c) x2 (Int32.ofNat k) r2.2 else (if md_in (Int32.ofNat (k + 1)) (md_len 18) = true then fn_Md_bindings_36 N d (Int32.ofNat c) x2 (Int32.ofNat (k + 1)) (r1.2.1, va_up r1.2.2 18 (upd (r1.2.2 18) (Int32.ofNat (k + 1)).toNatClampNeg (Int32.ofInt (-1)))) else none)) else none) else fn_Md_bindings_36 N d (Int32.ofNat c) x2 (Int32.ofNat (k - 1)) (ks S fc od rn uf an ho fs al a17 (upd a18 k (Int32.ofNat i)) a19 a20 a21) := by
  have i1 : md_in (Int32.ofNat k) (md_len 18) = true := by rw [n_in (by omega), ml18]; omega
  have ad1 : Int32.ofNat k + Int32.ofInt 1 = Int32.ofNat (k + 1) := by rw [n_1, n_add]
  have hkk : (Int32.ofNat k).toNatClampNeg = k := n_nat (by omega)
  rw [fe_Md_bindings_36, if_neg (show ¬ Int32.ofNat k ≤ 0 from n_leF (b := 0) (by omega) (by omega)), if_pos i1, if_pos i1, if_pos i1, if_pos i1]
  simp only [hkk, ks_h18, h18, n_up, ks_v18, ks_pr, ks_g33, upd_eq, ad1, n_dn hk.1]
  by_cases e : i < od
  · rw [if_pos (n_ltT e (by omega)), if_pos e]
  · rw [if_neg (n_ltF (by omega) (by omega)), if_neg e]
theorem m_bnd (hN : 60 ≤ N) {c p most : Nat} (hc : c ≤ 30) (hmo : most ≤ 30) (h7 : S.1 7 = Int32.ofNat most) (h10 : S.2 10 c = Int32.ofNat p) {x : g_Cl} (hx : mc_rep S c x) (hok : cl_ok x) (hh : ∀ y, x.2.2.1 = some y → a_sz y) (hbz : ∀ a, a ∈ x.2.2.2.1 → a_sz a ∧ a.1 < 26) {F : List j_R} (hFb : ∀ r, r ∈ F → r_bd r ∧ r_sz r) {add : Bool} (hadd : add = true → ∃ y, x.2.2.1 = some y) : ∀ (as : List g_A) (a : g_A) (k : Nat), 1 ≤ k → k + as.length = x.2.2.2.1.length → x.2.2.2.1[k - 1]? = some a → (∀ j, as[j]? = x.2.2.2.1[k + j]?) → ∀ (n i d m : Nat) (v : Nat → Int32) (og : Int32) (w : j_W) (f : j_F) (b : Bool) (fc : Nat) (a17 a18 a19 a20 a21 : Nat → Int32), i + n = F.length → bc F.length as.length n ≤ d → m < 256 → a18 k = Int32.ofInt ((i : Int) - 1) → og_ok F (j_own p) a18 (k - 1) og → a19 k = Int32.ofNat m → av m a20 v → v_bd m v → (∀ q, (j_bm x.2.2.2.1).testBit q = true → (m ||| j_bm (a :: as)).testBit q = true) → m_rp a17 fc most w → j_pre F w.1 →
    ∃ (d' fc' : Nat) (a17' a18' a19' a20' a21' : Nat → Int32), d ≤ d' + bc F.length as.length n ∧ fn_Md_bindings_36 N d (Int32.ofNat c) (j_b add) (Int32.ofNat k) (ks S fc F.length rn uf (j_b b) (j_b f.1) (j_b f.2.2) (j_b (!f.2.1)) a17 a18 a19 a20 a21) = fn_Md_bindings_36 N d' (Int32.ofNat c) (j_b add) (Int32.ofNat (k - 1)) (ks S fc' F.length rn uf (j_b (b || !((F.drop i).flatMap fun r => match j_fit a r (j_tr p x.2.1) m v with | none => [] | some q => j_all F (j_tr p x.2.1) as q.1 q.2 (og ||| r.2.2.2.2)).isEmpty)) (j_b (m_Fl x f ((F.drop i).flatMap fun r => match j_fit a r (j_tr p x.2.1) m v with | none => [] | some q => j_all F (j_tr p x.2.1) as q.1 q.2 (og ||| r.2.2.2.2))).1) (j_b (m_Fl x f ((F.drop i).flatMap fun r => match j_fit a r (j_tr p x.2.1) m v with | none => [] | some q => j_all F (j_tr p x.2.1) as q.1 q.2 (og ||| r.2.2.2.2))).2.2) (j_b (!(m_Fl x f ((F.drop i).flatMap fun r => match j_fit a r (j_tr p x.2.1) m v with | none => [] | some q => j_all F (j_tr p x.2.1) as q.1 q.2 (og ||| r.2.2.2.2))).2.1)) a17' a18' a19' a20' a21') ∧ m_rp a17' fc' most (m_W add most x w ((F.drop i).flatMap fun r => match j_fit a r (j_tr p x.2.1) m v with | none => [] | some q => j_all F (j_tr p x.2.1) as q.1 q.2 (og ||| r.2.2.2.2))) ∧ j_pre F (m_W add most x w ((F.drop i).flatMap fun r => match j_fit a r (j_tr p x.2.1) m v with | none => [] | some q => j_all F (j_tr p x.2.1) as q.1 q.2 (og ||| r.2.2.2.2))).1 ∧ (∀ q, q < k → a18' q = a18 q) ∧ (∀ q, q ≤ k → a19' q = a19 q) ∧ av m a20' v := by
  intro as
  induction as with
  | nil =>
    intro a k hk1 hkl hak has n
    induction n with
    | zero =>
      intro i d m v og w f b fc a17 a18 a19 a20 a21 hi hd hm h18 hog h19 hav hvb hbm hrp hpr
      have hF30 : F.length ≤ 30 := by have := hpr.1; have := hrp.1; omega
      have h3 := hok.1
      simp only [List.length_nil] at hkl hd ⊢
      rw [bc0] at hd
      obtain ⟨d, rfl⟩ : ∃ d', d = d' + 1 := ⟨d - 1, by omega⟩
      rw [m_b36 (by omega) (by omega) hF30 h18, if_neg (by omega), List.drop_eq_nil_of_le (by omega), List.flatMap_nil, m_W_nil]
      refine ⟨d, fc, a17, upd a18 k (Int32.ofNat i), a19, a20, a21, by rw [bc0]; omega, ?_, hrp, hpr, fun q hq => upd_ne (by omega), fun _ _ => rfl, hav⟩
      rw [show (b || !([] : List (Int32 × (Nat → Int32))).isEmpty) = b by cases b <;> rfl]
      rfl
    | succ n ih =>
      intro i d m v og w f b fc a17 a18 a19 a20 a21 hi hd hm h18 hog h19 hav hvb hbm hrp hpr
      have hF30 : F.length ≤ 30 := by have := hpr.1; have := hrp.1; omega
      have h3 := hok.1
      simp only [List.length_nil] at hkl hd ih ⊢
      rw [bc0] at hd
      simp only [bc0] at ih
      have hlt : i < F.length := by omega
      have hdr : F.drop i = F[i] :: F.drop (i + 1) := List.drop_eq_getElem_cons hlt
      have hrow : r_row a17 i = F[i] := hrp.2.2.2 i _ (hpr.2 i _ (List.getElem?_eq_getElem hlt))
      have hmem : F[i] ∈ F := List.getElem_mem hlt
      obtain ⟨d, rfl⟩ : ∃ d', d = d' + 1 := ⟨d - 1, by omega⟩
      rw [m_b36 (by omega) (by omega) hF30 h18, if_pos hlt]
      have hat0 := hok.2.1 a (List.mem_of_getElem? hak)
      have haz := hbz a (List.mem_of_getElem? hak)
      have ham := hx.2.2.2.2.1 (k - 1) a hak
      rw [show k - 1 + 1 = k by omega] at ham
      have kf := m_fit (N := N) (S := S) (fc := fc) (od := F.length) (rn := rn) (uf := uf) (an := j_b b) (ho := j_b f.1) (fs := j_b f.2.2) (al := j_b (!f.2.1)) (a17 := a17) (a18 := upd a18 k (Int32.ofNat i)) (a19 := a19) (a20 := a20) (a21 := a21) hN hc h10 hx.2.1 (k := k) (f := i) (by omega) (by omega) ham haz.1 haz.2 hat0.1 hat0.2 (by rw [hrow]; exact (hFb _ hmem).2) hm h19 hav
      rw [hrow] at kf
      rw [hdr, List.flatMap_cons]
      have hup : upd a18 k (Int32.ofNat i) k = Int32.ofInt (((i + 1 : Nat) : Int) - 1) := by
        rw [upd_eq]
        show Int32.ofInt (i : Int) = _
        congr 1
        omega
      have hogu : og_ok F (j_own p) (upd a18 k (Int32.ofNat i)) (k - 1) og := og_ext _ _ (fun q hq => upd_ne (by omega)) hog
      cases ef : j_fit a F[i] (j_tr p x.2.1) m v with
      | none =>
        rw [ef] at kf
        obtain ⟨b19, b20, k1, k2, k3⟩ := kf
        rw [k1, Option.bind_some, if_pos (show (Int32.ofInt 0, ks S fc F.length rn uf (j_b b) (j_b f.1) (j_b f.2.2) (j_b (!f.2.1)) a17 (upd a18 k (Int32.ofNat i)) b19 b20 a21).1 = 0 from rfl)]
        obtain ⟨d', fc', c17, c18, c19, c20, c21, q1, q2, q3, q4, q5, q6, q7⟩ := ih (i + 1) d m v og w f b fc a17 (upd a18 k (Int32.ofNat i)) b19 b20 a21 (by omega) (by omega) hm hup hogu ((k2 k (by omega)).trans h19) k3 hvb hbm hrp hpr
        refine ⟨d', fc', c17, c18, c19, c20, c21, by rw [bc0]; omega, q2, q3, q4, fun q hq => (q5 q hq).trans (upd_ne (by omega)), fun q hq => (q6 q hq).trans (k2 q (by omega)), q7⟩
      | some pr =>
        rw [ef] at kf
        obtain ⟨hp256, b19, b20, k1, k2, k3, k4⟩ := kf
        obtain ⟨f1, f2⟩ := j_fit_mono ef
        rw [Nat.or_zero] at f1
        have hlen : x.2.2.2.1.length = k := by omega
        have hogk : og_ok F (j_own p) (upd a18 k (Int32.ofNat i)) x.2.2.2.1.length (og ||| F[i].2.2.2.2) := by
          rw [hlen]
          obtain ⟨k', rfl⟩ : ∃ k', k = k' + 1 := ⟨k - 1, by omega⟩
          exact ⟨i, F[i], og, upd_eq _ _ _, List.getElem?_eq_getElem hlt, hogu, rfl⟩
        obtain ⟨fc1, b17, b21, k5, k6⟩ := m_complete (N := N) (S := S) (od := F.length) (rn := rn) (uf := uf) (an := j_b b) (a19 := b19) (a21 := a21) hN hc hmo h7 h10 hx hok hh hrp hpr hogk k4 (fun q hq => by
          have := hbm q hq
          rw [f1]
          unfold j_bm at this
          rw [show j_bm [] = 0 from rfl, Nat.or_zero] at this
          exact this) (j_fit_bd hvb (hFb _ hmem).1 ef) (f := f) hadd
        have hne : ¬ (Int32.ofInt 1, ks S fc F.length rn uf (j_b b) (j_b f.1) (j_b f.2.2) (j_b (!f.2.1)) a17 (upd a18 k (Int32.ofNat i)) b19 b20 a21).1 = 0 := n_ne10
        rw [k1, Option.bind_some, if_neg hne, if_pos (show md_in (Int32.ofNat c) (md_len 12) = true by rw [n_in (by omega), ml12]; omega)]
        have hle : (Int32.ofInt 1, ks S fc F.length rn uf (j_b b) (j_b f.1) (j_b f.2.2) (j_b (!f.2.1)) a17 (upd a18 k (Int32.ofNat i)) b19 b20 a21).2.2 12 (Int32.ofNat c).toNatClampNeg ≤ Int32.ofNat k := by
          show S.2 12 (Int32.ofNat c).toNatClampNeg ≤ _
          rw [n_nat (by omega), hx.2.2.1, hlen]
          exact n_leT (Nat.le_refl _) (by omega)
        rw [if_pos hle]
        dsimp only
        rw [k5, Option.bind_some]
        have hav2 : av m b20 v := by
          intro q hq hb
          rw [k4 q hq (by rw [f1, Nat.testBit_or, hb]; rfl), f2 q hb]
        have hall : j_all F (j_tr p x.2.1) [] pr.1 pr.2 (og ||| F[i].2.2.2.2) = [(og ||| F[i].2.2.2.2, pr.2)] := rfl
        dsimp only
        rw [hall, m_W_app, m_Fl_app, m_W_one]
        have hpr2 : j_pre F (if add = true then j_add most x w (og ||| F[i].2.2.2.2, pr.2) else w).1 := by
          split
          · exact j_add_pre hpr
          · exact hpr
        obtain ⟨d', fc', c17, c18, c19, c20, c21, q1, q2, q3, q4, q5, q6, q7⟩ := ih (i + 1) d m v og (if add = true then j_add most x w (og ||| F[i].2.2.2.2, pr.2) else w) (j_fl1 x f (og ||| F[i].2.2.2.2, pr.2)) true fc1 b17 (upd a18 k (Int32.ofNat i)) b19 b20 b21 (by omega) (by omega) hm hup hogu ((k3 k (by omega)).trans h19) hav2 hvb hbm k6 hpr2
        refine ⟨d', fc', c17, c18, c19, c20, c21, by rw [bc0]; omega, ?_, q3, q4, fun q hq => (q5 q hq).trans (upd_ne (by omega)), fun q hq => (q6 q hq).trans (k3 q (by omega)), q7⟩
        rw [q2]
        rw [show ∀ L : List (Int32 × (Nat → Int32)), (b || !([(og ||| F[i].2.2.2.2, pr.2)] ++ L).isEmpty) = (true || !L.isEmpty) from fun L => by cases b <;> rfl]
        rfl
  | cons a2 as IH =>
    intro a k hk1 hkl hak has n
    induction n with
    | zero =>
      intro i d m v og w f b fc a17 a18 a19 a20 a21 hi hd hm h18 hog h19 hav hvb hbm hrp hpr
      have hF30 : F.length ≤ 30 := by have := hpr.1; have := hrp.1; omega
      have h3 := hok.1
      simp only [List.length_cons] at hkl hd ⊢
      obtain ⟨d, rfl⟩ : ∃ d', d = d' + 1 := ⟨d - 1, by rw [bcs] at hd; omega⟩
      rw [m_b36 (by omega) (by omega) hF30 h18, if_neg (by omega), List.drop_eq_nil_of_le (by omega), List.flatMap_nil, m_W_nil]
      refine ⟨d, fc, a17, upd a18 k (Int32.ofNat i), a19, a20, a21, by rw [bcs]; omega, ?_, hrp, hpr, fun q hq => upd_ne (by omega), fun _ _ => rfl, hav⟩
      rw [show (b || !([] : List (Int32 × (Nat → Int32))).isEmpty) = b by cases b <;> rfl]
      rfl
    | succ n ih =>
      intro i d m v og w f b fc a17 a18 a19 a20 a21 hi hd hm h18 hog h19 hav hvb hbm hrp hpr
      have hF30 : F.length ≤ 30 := by have := hpr.1; have := hrp.1; omega
      have h3 := hok.1
      simp only [List.length_cons] at hkl hd ih ⊢
      have hlt : i < F.length := by omega
      have hdr : F.drop i = F[i] :: F.drop (i + 1) := List.drop_eq_getElem_cons hlt
      have hrow : r_row a17 i = F[i] := hrp.2.2.2 i _ (hpr.2 i _ (List.getElem?_eq_getElem hlt))
      have hmem : F[i] ∈ F := List.getElem_mem hlt
      have hbc : bc F.length (as.length + 1) (n + 1) = bc F.length (as.length + 1) n + 1 + bc F.length as.length F.length := by
        rw [bcs, bcs, Nat.add_mul]
        omega
      obtain ⟨d, rfl⟩ : ∃ d', d = d' + 1 := ⟨d - 1, by omega⟩
      rw [m_b36 (by omega) (by omega) hF30 h18, if_pos hlt]
      have hat0 := hok.2.1 a (List.mem_of_getElem? hak)
      have haz := hbz a (List.mem_of_getElem? hak)
      have ham := hx.2.2.2.2.1 (k - 1) a hak
      rw [show k - 1 + 1 = k by omega] at ham
      have kf := m_fit (N := N) (S := S) (fc := fc) (od := F.length) (rn := rn) (uf := uf) (an := j_b b) (ho := j_b f.1) (fs := j_b f.2.2) (al := j_b (!f.2.1)) (a17 := a17) (a18 := upd a18 k (Int32.ofNat i)) (a19 := a19) (a20 := a20) (a21 := a21) hN hc h10 hx.2.1 (k := k) (f := i) (by omega) (by omega) ham haz.1 haz.2 hat0.1 hat0.2 (by rw [hrow]; exact (hFb _ hmem).2) hm h19 hav
      rw [hrow] at kf
      rw [hdr, List.flatMap_cons]
      have hup : upd a18 k (Int32.ofNat i) k = Int32.ofInt (((i + 1 : Nat) : Int) - 1) := by
        rw [upd_eq]
        show Int32.ofInt (i : Int) = _
        congr 1
        omega
      have hogu : og_ok F (j_own p) (upd a18 k (Int32.ofNat i)) (k - 1) og := og_ext _ _ (fun q hq => upd_ne (by omega)) hog
      cases ef : j_fit a F[i] (j_tr p x.2.1) m v with
      | none =>
        rw [ef] at kf
        obtain ⟨b19, b20, k1, k2, k3⟩ := kf
        rw [k1, Option.bind_some, if_pos (show (Int32.ofInt 0, ks S fc F.length rn uf (j_b b) (j_b f.1) (j_b f.2.2) (j_b (!f.2.1)) a17 (upd a18 k (Int32.ofNat i)) b19 b20 a21).1 = 0 from rfl)]
        obtain ⟨d', fc', c17, c18, c19, c20, c21, q1, q2, q3, q4, q5, q6, q7⟩ := ih (i + 1) d m v og w f b fc a17 (upd a18 k (Int32.ofNat i)) b19 b20 a21 (by omega) (by omega) hm hup hogu ((k2 k (by omega)).trans h19) k3 hvb hbm hrp hpr
        refine ⟨d', fc', c17, c18, c19, c20, c21, by omega, q2, q3, q4, fun q hq => (q5 q hq).trans (upd_ne (by omega)), fun q hq => (q6 q hq).trans (k2 q (by omega)), q7⟩
      | some pr =>
        rw [ef] at kf
        obtain ⟨hp256, b19, b20, k1, k2, k3, k4⟩ := kf
        obtain ⟨f1, f2⟩ := j_fit_mono ef
        rw [Nat.or_zero] at f1
        have hne : ¬ (Int32.ofInt 1, ks S fc F.length rn uf (j_b b) (j_b f.1) (j_b f.2.2) (j_b (!f.2.1)) a17 (upd a18 k (Int32.ofNat i)) b19 b20 a21).1 = 0 := n_ne10
        rw [k1, Option.bind_some, if_neg hne, if_pos (show md_in (Int32.ofNat c) (md_len 12) = true by rw [n_in (by omega), ml12]; omega)]
        have hle : ¬ (Int32.ofInt 1, ks S fc F.length rn uf (j_b b) (j_b f.1) (j_b f.2.2) (j_b (!f.2.1)) a17 (upd a18 k (Int32.ofNat i)) b19 b20 a21).2.2 12 (Int32.ofNat c).toNatClampNeg ≤ Int32.ofNat k := by
          show ¬ S.2 12 (Int32.ofNat c).toNatClampNeg ≤ _
          rw [n_nat (by omega), hx.2.2.1]
          exact n_leF (by omega) (by omega)
        rw [if_neg hle, if_pos (show md_in (Int32.ofNat (k + 1)) (md_len 18) = true by rw [n_in (by omega), ml18]; omega)]
        dsimp only
        rw [ks_h18, ks_v18, ks_pr, n_nat (by omega)]
        have ha2 : x.2.2.2.1[k + 1 - 1]? = some a2 := by
          have := has 0
          rw [Nat.add_zero] at this
          rw [show k + 1 - 1 = k by omega, ← this]; rfl
        have hogk : og_ok F (j_own p) (upd (upd a18 k (Int32.ofNat i)) (k + 1) (Int32.ofInt (-1))) (k + 1 - 1) (og ||| F[i].2.2.2.2) := by
          rw [show k + 1 - 1 = k by omega]
          refine og_ext k _ (a18 := upd a18 k (Int32.ofNat i)) (fun q hq => upd_ne (by omega)) ?_
          obtain ⟨k', rfl⟩ : ∃ k', k = k' + 1 := ⟨k - 1, by omega⟩
          exact ⟨i, F[i], og, upd_eq _ _ _, List.getElem?_eq_getElem hlt, hogu, rfl⟩
        obtain ⟨d1, fc1, c17, c18, c19, c20, c21, q1, q2, q3, q4, q5, q6, q7⟩ := IH a2 (k + 1) (by omega) (by omega) ha2 (fun j => by
          have := has (j + 1)
          rw [show k + (j + 1) = k + 1 + j by omega] at this
          rw [← this]; rfl) F.length 0 d pr.1 pr.2 (og ||| F[i].2.2.2.2) w f b fc a17 (upd (upd a18 k (Int32.ofNat i)) (k + 1) (Int32.ofInt (-1))) b19 b20 a21 (by omega) (by omega) hp256 (by rw [upd_eq]; rfl) hogk k2 k4 (j_fit_bd hvb (hFb _ hmem).1 ef) (fun q hq => by
          have := hbm q hq
          rw [f1]
          unfold j_bm at this
          rw [Nat.or_assoc, Nat.or_assoc]
          exact this) hrp hpr
        rw [List.drop_zero] at q2 q3 q4
        have hall : j_all F (j_tr p x.2.1) (a2 :: as) pr.1 pr.2 (og ||| F[i].2.2.2.2) = F.flatMap fun r => match j_fit a2 r (j_tr p x.2.1) pr.1 pr.2 with | none => [] | some q => j_all F (j_tr p x.2.1) as q.1 q.2 ((og ||| F[i].2.2.2.2) ||| r.2.2.2.2) := rfl
        rw [← hall] at q2 q3 q4
        rw [q2, show k + 1 - 1 = k by omega, m_W_app, m_Fl_app]
        have hav2 : av m c20 v := by
          intro q hq hb
          rw [q7 q hq (by rw [f1, Nat.testBit_or, hb]; rfl), f2 q hb]
        have h18c : c18 k = Int32.ofInt (((i + 1 : Nat) : Int) - 1) := by
          rw [q5 k (by omega), upd_ne (by omega), hup]
        have hog2 : og_ok F (j_own p) c18 (k - 1) og := og_ext _ _ (fun q hq => by rw [q5 q (by omega), upd_ne (by omega)]) hogu
        obtain ⟨d', fc', e17, e18, e19, e20, e21, t1, t2, t3, t4, t5, t6, t7⟩ := ih (i + 1) d1 m v og (m_W add most x w (j_all F (j_tr p x.2.1) (a2 :: as) pr.1 pr.2 (og ||| F[i].2.2.2.2))) (m_Fl x f (j_all F (j_tr p x.2.1) (a2 :: as) pr.1 pr.2 (og ||| F[i].2.2.2.2))) (b || !(j_all F (j_tr p x.2.1) (a2 :: as) pr.1 pr.2 (og ||| F[i].2.2.2.2)).isEmpty) fc1 c17 c18 c19 c20 c21 (by omega) (by omega) hm h18c hog2 (by rw [q6 k (by omega), k3 k (by omega), h19]) hav2 hvb hbm q3 q4
        refine ⟨d', fc', e17, e18, e19, e20, e21, by omega, ?_, t3, t4, fun q hq => ?_, fun q hq => ?_, t7⟩
        · rw [t2]
          rw [show ∀ L1 L2 : List (Int32 × (Nat → Int32)), (b || !(L1 ++ L2).isEmpty) = ((b || !L1.isEmpty) || !L2.isEmpty) from fun L1 L2 => by cases b <;> cases L1 <;> rfl]
        · rw [t5 q hq, q5 q (by omega), upd_ne (by omega), upd_ne (by omega)]
        · rw [t6 q hq, q6 q (by omega), k3 q (by omega)]
def m_L (x : g_Cl) (p : Nat) (F : List j_R) : List (Int32 × (Nat → Int32)) := j_all F (j_tr p x.2.1) x.2.2.2.1 0 (fun _ => 0) (j_own p)
theorem bc_le : ∀ (l n f : Nat), l ≤ 2 → n ≤ 30 → f ≤ 30 → bc f l n ≤ 28861
  | 0, n, f, _, hn, hf => by rw [bc0]; omega
  | 1, n, f, _, hn, hf => by
    rw [bcs, bc0]
    have := Nat.mul_le_mul hn (show 1 + (f + 1) ≤ 32 by omega)
    omega
  | 2, n, f, _, hn, hf => by
    rw [bcs, bcs, bc0]
    have h1 := Nat.mul_le_mul hf (show 1 + (f + 1) ≤ 32 by omega)
    have := Nat.mul_le_mul hn (show 1 + (f * (1 + (f + 1)) + 1) ≤ 962 by omega)
    omega
  | l + 3, n, f, hl, _, _ => absurd hl (by omega)
theorem m_bindings (hN : 60 ≤ N) (hN2 : 30000 ≤ N) {c p most : Nat} (hc : c ≤ 30) (hmo : most ≤ 30) (h7 : S.1 7 = Int32.ofNat most) (h10 : S.2 10 c = Int32.ofNat p) {x : g_Cl} (hx : mc_rep S c x) (hok : cl_ok x) (hb1 : 1 ≤ x.2.2.2.1.length) (hh : ∀ y, x.2.2.1 = some y → a_sz y) (hbz : ∀ a, a ∈ x.2.2.2.1 → a_sz a ∧ a.1 < 26) {F : List j_R} (hFb : ∀ r, r ∈ F → r_bd r ∧ r_sz r) {add : Bool} (hadd : add = true → ∃ y, x.2.2.1 = some y) {w : j_W} {fc : Nat} {an ho fs al : Int32} {a17 a18 a19 a20 a21 : Nat → Int32} (hrp : m_rp a17 fc most w) (hpr : j_pre F w.1) :
    ∃ (fc' : Nat) (a17' a18' a19' a20' a21' : Nat → Int32), fn_Md_bindings N (Int32.ofNat c) (j_b add) (ks S fc F.length rn uf an ho fs al a17 a18 a19 a20 a21) = some (0, ks S fc' F.length rn uf (j_b (!(m_L x p F).isEmpty)) (j_b (m_Fl x (false, false, false) (m_L x p F)).1) (j_b (m_Fl x (false, false, false) (m_L x p F)).2.2) (j_b (!(m_Fl x (false, false, false) (m_L x p F)).2.1)) a17' a18' a19' a20' a21') ∧ m_rp a17' fc' most (m_W add most x w (m_L x p F)) ∧ j_pre F (m_W add most x w (m_L x p F)).1 := by
  have hF30 : F.length ≤ 30 := by have := hpr.1; have := hrp.1; omega
  have h3 := hok.1
  obtain ⟨a, as, hbody⟩ : ∃ a as, x.2.2.2.1 = a :: as := by
    cases h : x.2.2.2.1 with
    | nil => rw [h] at hb1; exact absurd hb1 (by simp)
    | cons a as => exact ⟨a, as, rfl⟩
  have hlen : x.2.2.2.1.length = as.length + 1 := by rw [hbody]; rfl
  have hbl := bc_le as.length F.length F.length (by omega) hF30 hF30
  obtain ⟨d', fc', c17, c18, c19, c20, c21, q1, q2, q3, q4, q5, q6, q7⟩ := m_bnd (N := N) (S := S) (rn := rn) (uf := uf) hN hc hmo h7 h10 hx hok hh hbz hFb hadd as a 1 (by omega) (by omega) (by rw [hbody]; rfl) (fun j => by rw [hbody, Nat.add_comm]; rfl) F.length 0 N 0 (fun _ => 0) (j_own p) w (false, false, false) false fc a17 (upd a18 1 (Int32.ofInt (-1))) (upd a19 1 (Int32.ofNat 0)) a20 a21 (by omega) (by omega) (by omega) (by rw [upd_eq]; rfl) rfl (upd_eq _ _ _) (fun i _ hb => by rw [Nat.zero_testBit] at hb; cases hb) (fun i _ hb => by rw [Nat.zero_testBit] at hb; cases hb) (fun q hq => by rw [Nat.zero_or, ← hbody]; exact hq) hrp hpr
  rw [List.drop_zero] at q2 q3 q4
  have hall : m_L x p F = F.flatMap fun r => match j_fit a r (j_tr p x.2.1) 0 (fun _ => 0) with | none => [] | some q => j_all F (j_tr p x.2.1) as q.1 q.2 ((j_own p) ||| r.2.2.2.2) := by
    unfold m_L
    rw [hbody]
    rfl
  rw [← hall] at q2 q3 q4
  refine ⟨fc', c17, c18, c19, c20, c21, ?_, q3, q4⟩
  obtain ⟨d2, rfl⟩ : ∃ d2, d' = d2 + 1 := ⟨d' - 1, by omega⟩
  have hend : ∀ Z, fn_Md_bindings_36 N (d2 + 1) (Int32.ofNat c) (j_b add) (Int32.ofNat (1 - 1)) Z = some (0, Z) := fun Z => by
    rw [fe_Md_bindings_36, if_pos (show Int32.ofNat (1 - 1) ≤ 0 by decide)]
  rw [hend] at q2
  unfold fn_Md_bindings fn_Md_bindings_0
  rw [if_pos n_b0, if_pos n_b1, if_pos (show md_in (Int32.ofInt 1) (md_len 19) = true by decide), if_pos (show md_in (Int32.ofInt 1) (md_len 18) = true by decide)]
  simp only [if_pos n_b0, ks_u42, ks_u43, ks_u44, ks_u45, ks_pr, ks_h19, ks_v19, ks_h18, ks_v18, show (Int32.ofInt 1).toNatClampNeg = 1 from rfl]
  exact q2
end MBI
