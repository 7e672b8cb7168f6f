/-! ### authorize: the class's side -/
section CA2
variable {N : Nat} {C : Nat × Nat} {g : ag_H} {re rd un : Int32} {kn : Nat} {rf tr he mi fa ov : Int32} {room : Nat} {rv : Nat → Option Nat} {ra : Nat → Nat} {rw : Nat → Nat → Int32} {va sk : Nat → Int32}
theorem c_set6a {un : Int32} (o : 75 ≤ g.1) (hN : 60 ≤ N) (hra : ra_ok rv ra) (hroom : room ≤ 30) {Ps : List (List g_Cl)} (hP : pl_rep g Ps) {k : Nat} (hmo : k + 1 ≤ 12) {d : Nat} (hd : k < d) {w : j_W} (hG : fa_rep rw ra w.1) (hbd : g_bd30 w.1) :
    ∃ kn' rf' tr' he' mi' fa' rw' va' sk', fn_Jg_settle_6 N C 7 (d + 1) (Int32.ofNat (k + 1)) (Int32.ofNat 0) (js g re (Int32.ofNat 0) un kn rf tr he mi fa w.1.length (j_b w.2) room rv rw va sk) = some (j_b (j_set room Ps (k + 1) w 0 false).1, js g re (Int32.ofNat (j_set room Ps (k + 1) w 0 false).2.2.1) un kn' rf' tr' he' mi' fa' (j_set room Ps (k + 1) w 0 false).2.1.1.length (j_b (j_set room Ps (k + 1) w 0 false).2.1.2) room rv rw' va' sk') ∧ fa_rep rw' ra (j_set room Ps (k + 1) w 0 false).2.1.1 ∧ g_bd30 (j_set room Ps (k + 1) w 0 false).2.1.1 ∧ ((j_set room Ps (k + 1) w 0 false).1 = true → kn' = (j_set room Ps (k + 1) w 0 false).2.1.1.length ∧ rf' = j_b (j_set room Ps (k + 1) w 0 false).2.2.2) := by
  have hG30 := hG.1
  rw [fe_Jg_settle_6, if_neg (n_leF (by omega) (by omega)), js_r7_0 o, Option.bind_some, js_g8_2 o, Option.bind_some]
  unfold fn_Jg_settle_67 j_set
  by_cases eo : w.2 = true
  · rw [if_pos eo, eo, if_neg (by decide), if_pos n_b0]
    refine ⟨kn, rf, tr, he, mi, fa, rw, va, sk, ?_, hG, hbd, fun q => by cases q⟩
    rfl
  · have eo' : w.2 = false := by simpa using eo
    obtain ⟨tr1, he1, mi1, fa1, rw1, va1, sk1, k1, k2, k3, k4⟩ := c_round (N := N) (C := C) (re := re) (rd := Int32.ofNat 0) (un := un) (kn := kn) (rf := rf) (tr := tr) (he := he) (mi := mi) (fa := fa) (va := va) (sk := sk) o hN hra hroom hP hG hbd
    have hz30 := k2.1
    rw [if_neg eo, if_pos (show j_b w.2 = 0 by rw [eo']; rfl), js_rc7 o, Option.bind_some, k1, Option.bind_some]
    dsimp only
    rw [js_g7_4 o, Option.bind_some, n_1, n_add, js_p7_4 o, Option.bind_some, js_r7_0 o, Option.bind_some, js_g8_1 o, Option.bind_some, js_g7_8 o, Option.bind_some]
    unfold fn_Jg_settle_61
    obtain ⟨kn', tr', he', mi', fa', rw', va', sk', go1, go2, go3, go4⟩ := c_set6 (N := N) (C := C) (re := re) (un := un) o hN hra hroom hP (more := k + 1) hmo k d 1 1 (j_rndP room w.1 0 Ps (w, false)).1 (j_rndP room w.1 0 Ps (w, false)).2 w.1.length tr1 he1 mi1 fa1 rw1 va1 sk1 (by omega) (by omega) (by omega) k2 k4
    by_cases e1 : (j_rndP room w.1 0 Ps (w, false)).1.1.length = w.1.length
    · rw [if_pos (n_eqT e1), Option.bind_some, js_g8_2 o, Option.bind_some]
      by_cases e2 : (j_rndP room w.1 0 Ps (w, false)).1.2 = false
      · rw [if_pos (show j_b (j_rndP room w.1 0 Ps (w, false)).1.2 = 0 by rw [e2]; rfl), if_pos (show md_01 (Int32.ofNat 1) = true from rfl), if_pos ⟨e1, e2⟩]
        exact ⟨w.1.length, _, tr1, he1, mi1, fa1, rw1, va1, sk1, rfl, k2, k4, fun _ => ⟨e1.symm, rfl⟩⟩
      · have e2' : (j_rndP room w.1 0 Ps (w, false)).1.2 = true := by simpa using e2
        rw [if_neg (show ¬ j_b (j_rndP room w.1 0 Ps (w, false)).1.2 = 0 by rw [e2']; decide), if_neg (fun q => e2 q.2)]
        exact ⟨kn', _, tr', he', mi', fa', rw', va', sk', go1, go2, go3, fun q => ⟨go4 q, rfl⟩⟩
    · rw [if_neg (n_eqF e1 (by omega) (by omega)), if_neg (fun q => e1 q.1)]
      exact ⟨kn', _, tr', he', mi', fa', rw', va', sk', go1, go2, go3, fun q => ⟨go4 q, rfl⟩⟩
theorem c_settle2 {un : Int32} (o : 75 ≤ g.1) (hN : 60 ≤ N) (hra : ra_ok rv ra) (hroom : room ≤ 30) {Ps : List (List g_Cl)} (hP : pl_rep g Ps) {more : Nat} (h1 : 1 ≤ more) (hmo : more ≤ 12) (hbd : g_bd30 (s_w0 Ps room).1) :
    ∃ kn' rf' tr' he' mi' fa' rw' va' sk', fn_Jg_settle N C 7 (Int32.ofNat more) (js g re (Int32.ofNat 0) un kn rf tr he mi fa 0 (j_b false) room rv rw va sk) = some (j_b (j_set room Ps more (s_w0 Ps room) 0 false).1, js g re (Int32.ofNat (j_set room Ps more (s_w0 Ps room) 0 false).2.2.1) un kn' rf' tr' he' mi' fa' (j_set room Ps more (s_w0 Ps room) 0 false).2.1.1.length (j_b (j_set room Ps more (s_w0 Ps room) 0 false).2.1.2) room rv rw' va' sk') ∧ fa_rep rw' ra (j_set room Ps more (s_w0 Ps room) 0 false).2.1.1 ∧ g_bd30 (j_set room Ps more (s_w0 Ps room) 0 false).2.1.1 ∧ ((j_set room Ps more (s_w0 Ps room) 0 false).1 = true → kn' = (j_set room Ps more (s_w0 Ps room) 0 false).2.1.1.length ∧ rf' = j_b (j_set room Ps more (s_w0 Ps room) 0 false).2.2.2) := by
  obtain ⟨rw1, k1, k2⟩ := c_layFacts (N := N) (C := C) (re := re) (rd := Int32.ofNat 0) (un := un) (kn := kn) (rf := rf) (tr := tr) (he := he) (mi := mi) (fa := fa) (va := va) (sk := sk) (w := ([], false)) (rw := rw) o hN hra hroom hP ⟨Nat.zero_le _, fun i r hi => by cases hi⟩
  have k1' : fn_Jg_layFacts N C 7 (js g re (Int32.ofNat 0) un kn rf tr he mi fa 0 (j_b false) room rv rw va sk) = some (0, js g re (Int32.ofNat 0) un kn rf tr he mi fa (s_w0 Ps room).1.length (j_b (s_w0 Ps room).2) room rv rw1 va sk) := k1
  have k2' : fa_rep rw1 ra (s_w0 Ps room).1 := k2
  obtain ⟨k, rfl⟩ : ∃ k, more = k + 1 := ⟨more - 1, by omega⟩
  obtain ⟨d, hd⟩ : ∃ d, N = d + 1 := ⟨N - 1, by omega⟩
  have key := c_set6a (N := N) (C := C) (re := re) (un := un) (kn := kn) (rf := rf) (tr := tr) (he := he) (mi := mi) (fa := fa) (va := va) (sk := sk) o hN hra hroom hP (k := k) hmo (d := d) (by omega) k2' hbd
  rw [← hd] at key
  unfold fn_Jg_settle fn_Jg_settle_0
  rw [js_rc7 o, Option.bind_some, k1', Option.bind_some, n_0]
  exact key
theorem c_e30 (o : 75 ≤ g.1) (hN : 60 ≤ N) {G : List j_R} (hra : ra_ok rv ra) (hf : fa_rep rw ra G) (x : Int32) : ∃ rv' ra' Gs, fn_Jg_end_30 N C 7 x (js g re rd un kn rf tr he mi fa G.length ov room rv rw va sk) = some (x, js g x rd un kn rf tr he mi fa Gs.length ov room rv' rw va sk) ∧ ra_ok rv' ra' ∧ fa_rep rw ra' Gs ∧ Gs.Perm G ∧ r_srt Gs := by
  obtain ⟨rv', ra', Gs, z1, z2, z3, z4, z5⟩ := c_sort (N := N) (C := C) (re := re) (rd := rd) (un := un) (kn := kn) (rf := rf) (tr := tr) (he := he) (mi := mi) (fa := fa) (ov := ov) (room := room) (va := va) (sk := sk) o hN hra hf
  refine ⟨rv', ra', Gs, ?_, z2, z3, z4, z5⟩
  unfold fn_Jg_end_30
  rw [js_r7_0 o, Option.bind_some, js_rc8 o, Option.bind_some, z1, Option.bind_some]
  dsimp only
  rw [js_p7_3 o, Option.bind_some]
theorem c_e19 (o : 75 ≤ g.1) (hN : 60 ≤ N) {G : List j_R} (hra : ra_ok rv ra) (hf : fa_rep rw ra G) (x : Int32) : ∃ rv' ra' Gs, fn_Jg_end_19 N C 7 x (js g re rd un kn rf tr he mi fa G.length ov room rv rw va sk) = some (x, js g x rd (if x = (Int8.ofInt (-4)).toInt32 then un else Int32.ofInt 0) kn rf tr he mi fa Gs.length ov room rv' rw va sk) ∧ ra_ok rv' ra' ∧ fa_rep rw ra' Gs ∧ Gs.Perm G ∧ r_srt Gs := by
  unfold fn_Jg_end_19
  by_cases c : x = (Int8.ofInt (-4)).toInt32
  · rw [if_pos c, if_pos c]
    exact c_e30 o hN hra hf x
  · rw [if_neg c, if_neg c, js_p7_5 o, Option.bind_some]
    exact c_e30 o hN hra hf x
theorem c_jend (o : 75 ≤ g.1) (hN : 60 ≤ N) {G : List j_R} (hra : ra_ok rv ra) (hf : fa_rep rw ra G) (x : Int32) : ∃ rv' ra' Gs, fn_Jg_end N C 7 x (js g re rd un kn rf tr he mi fa G.length ov room rv rw va sk) = some (x, js g x rd (if x = (Int8.ofInt (-4)).toInt32 then un else Int32.ofInt 0) kn rf tr he mi fa Gs.length ov room rv' rw va sk) ∧ ra_ok rv' ra' ∧ fa_rep rw ra' Gs ∧ Gs.Perm (if x = Int32.ofInt (-1) ∨ x = (Int8.ofInt (-2)).toInt32 then [] else G) ∧ r_srt Gs := by
  have h11 : fn_Jg_end_11 N C 7 x (js g re rd un kn rf tr he mi fa G.length ov room rv rw va sk) = fn_Jg_end_19 N C 7 x (js g re rd un kn rf tr he mi fa ([] : List j_R).length ov room rv rw va sk) := by
    unfold fn_Jg_end_11
    rw [js_r7_0 o, Option.bind_some, n_0, js_p8_1 o, Option.bind_some]
    rfl
  have hf0 : fa_rep rw ra [] := ⟨Nat.zero_le _, fun i r hi => by cases hi⟩
  unfold fn_Jg_end fn_Jg_end_0
  by_cases c1 : x = Int32.ofInt (-1)
  · rw [if_pos c1, if_pos (Or.inl c1), h11]
    exact c_e19 o hN hra hf0 x
  · rw [if_neg c1]
    by_cases c2 : x = (Int8.ofInt (-2)).toInt32
    · rw [if_pos c2, if_pos (Or.inr c2), h11]
      exact c_e19 o hN hra hf0 x
    · rw [if_neg c2, if_neg (show ¬ (x = Int32.ofInt (-1) ∨ x = (Int8.ofInt (-2)).toInt32) from fun q => q.elim c1 c2)]
      exact c_e19 o hN hra hf x
theorem pl_js {sz : Nat} {Ps : List (List g_Cl)} (h : pl_rep (js g re rd un kn rf tr he mi fa sz ov room rv rw va sk) Ps) : pl_rep g Ps := by
  obtain ⟨h5, pv, h43, hall⟩ := h
  refine ⟨h5, pv, (js_big (Or.inr (Or.inr ⟨by decide, by decide⟩))).symm.trans h43, fun i L hL => ?_⟩
  obtain ⟨b, l, b1, b2, b3, b4, b5, b6, b7, b8⟩ := hall i L hL
  exact ⟨b, l, b1, b2, b3, b4, (jP_big b2).symm.trans b5, al_rep_mono (fun _ h _ => h) (fun a x _ hx => cl_ext (g := js g re rd un kn rf tr he mi fa sz ov room rv rw va sk) (g' := g) (Nat.le_refl _) (fun q hq _ => (js_big (Or.inl hq)).symm) hx) (al_rep_ext (g := js g re rd un kn rf tr he mi fa sz ov room rv rw va sk) (g' := g) (Nat.le_refl _) (fun q hq _ => (jP_big hq).symm) b6), b7, b8⟩
theorem c_begin (o : 75 ≤ g.1) {sz room' : Nat} : fn_Jg_begin N C 7 (Int32.ofNat room) (js g re rd un kn rf tr he mi fa sz ov room' rv rw va sk) = some (0, js g re (Int32.ofNat 0) (Int32.ofInt 0) kn rf tr he mi fa 0 (j_b false) room rv rw va sk) := by
  unfold fn_Jg_begin fn_Jg_begin_0 fn_Fa_begin fn_Fa_begin_0
  rw [js_r7_0 o, Option.bind_some, js_rc8 o, Option.bind_some, js_p8_3 o, Option.bind_some, n_0, js_p8_1 o, Option.bind_some, js_p8_2 o (show md_01 (Int32.ofNat 0) = true from rfl), Option.bind_some, Option.bind_some]
  dsimp only
  rw [js_p7_4 o, Option.bind_some, js_p7_5 o, Option.bind_some]
  rfl
end CA2
abbrev au_no (x : Int32) : Prop := x < Int32.ofInt 1 ∨ Int32.ofInt 3 < x
def w_jd (x1 x2 : Int32) (Bs : List (List g_Cl)) (D : List g_Cl) (Ts : List w_T) (most more : Nat) : w_J := s_jd (w_ok (w_at Ts x1) x2) (w_Ps (w_at Ts x1) Bs D) most more
def s_aut (x1 x2 : Int32) (Bs : List (List g_Cl)) (D : List g_Cl) (Ts : List w_T) (most more : Nat) : Int32 × Int32 := if w_no Ts x1 then (Int32.ofInt 0, Int32.ofInt 1) else if au_no x2 then (Int32.ofInt 0, Int32.ofInt 2) else ((w_jd x1 x2 Bs D Ts most more).1, Int32.ofInt 0)
section CA3
variable {N : Nat} {C : Nat × Nat} {ow : Nat → Nat} {g : ag_H} {lc : Nat → Nat} {ln : Nat} {M : List g_Cl} {Bs : List (List g_Cl)} {D : List g_Cl} {Ts : List w_T} {K most more : Nat} {re : Int32} {rd : Nat} {un : Int32} {Gs : List j_R}
theorem c_fin {kd : Nat → Option Int32} {F : Option ((Int32 ⊕ Nat) × ag_H)} {v : Int32} {g' : ag_H} {I0 I1 : (Nat → Nat) → ag_H → Prop} (hF : F = some (.inl v, g')) (h1 : g'.1 = g.1) (h2 : g'.2.1 = g.2.1) (h3 : g'.2.2 74 = g.2.2 74) (h : I1 ow g') : c_out kd F g (v, Int32.ofInt 0) I0 I1 := ⟨g', ow, ⟨by omega, by omega, by omega, by omega, h3⟩, Or.inl ⟨rfl, hF, h⟩⟩
theorem c_auth (hN : 1000 ≤ N) (h : cI ow g lc ln M Bs D Ts K most more re rd un Gs) (ok : g_ok lc ln M Bs D Ts K most more) (x1 x2 : Int32) (hC1 : g.1 + 100 ≤ C.1) (hC2 : g.2.1 + 500 ≤ C.2) :
    c_out kd_authorize (fn_GC_authorize N C 2 x1 x2 g) g (s_aut x1 x2 Bs D Ts most more) (fun ow g => cI ow g lc ln M Bs D Ts K most more re rd un Gs) (fun ow g => ∃ Gs', Gs'.Perm (w_jd x1 x2 Bs D Ts most more).2.2.2 ∧ r_srt Gs' ∧ cI ow g lc ln M Bs D Ts K most more (w_jd x1 x2 Bs D Ts most more).1 (w_jd x1 x2 Bs D Ts most more).2.1 (w_jd x1 x2 Bs D Ts most more).2.2.1 Gs') := by
  have h0 := h
  have o := h.1
  obtain ⟨mk, e2⟩ := cI_2 h
  have hT16 := ok.2.2.2.2.1.1
  unfold s_aut fn_GC_authorize fn_GC_authorize_0
  rw [pu_rc e2, Option.bind_some, c_isT h0 hT16 x1, Option.bind_some]
  dsimp only
  by_cases c1 : w_no Ts x1
  · rw [if_pos c1, if_pos (show x1 < 0 ∨ Int32.ofNat Ts.length ≤ x1 from c1), if_pos n_e00]
    exact c_thr h0 14 rfl (by omega) (by omega) (by decide) rfl
  rw [if_neg c1, if_neg (show ¬ (x1 < 0 ∨ Int32.ofNat Ts.length ≤ x1) from c1), if_neg n_ne10]
  have hroot : fn_GC_isRoot N C x2 g = some (if au_no x2 then Int32.ofInt 0 else Int32.ofInt 1, g) := by
    unfold fn_GC_isRoot fn_GC_isRoot_0 fn_GC_isRoot_14 fn_GC_isRoot_15
    by_cases a : x2 < Int32.ofInt 1
    · rw [if_pos a, if_pos (Or.inl a), if_pos n_b0]
    · rw [if_neg a]
      by_cases b : Int32.ofInt 3 < x2
      · rw [if_pos b, if_pos (Or.inr b), if_pos n_b0]
      · rw [if_neg b, if_neg (show ¬ au_no x2 from fun q => q.elim a b), if_pos n_b1]
  rw [hroot, Option.bind_some]
  dsimp only
  by_cases c2 : au_no x2
  · rw [if_pos c2, if_pos c2, if_pos n_e00]
    exact c_thr h0 12 rfl (by omega) (by omega) (by decide) rfl
  rw [if_neg c2, if_neg c2, if_neg n_ne10]
  obtain ⟨b, l, k1, k2, k3, k4⟩ := c_tok (N := N) (C := C) h0 hT16 c1
  have hmem : w_at Ts x1 ∈ Ts := by obtain ⟨i, _, _, h3⟩ := w_at_get hT16 c1; exact List.mem_of_getElem? h3
  have hlen := (ok.2.2.2.2.1.2 _ hmem).1
  obtain ⟨⟨hm1, hm2⟩, hm3, hm4⟩ := ok.2.2.2.2.2
  have hpok := w_Ps_ok ok (w_at Ts x1)
  obtain ⟨kn, rf, tr, he, mi, fa, ov, room, rv, rw, va, sk, ra, hg, hra, hfa⟩ := js_of h0
  obtain ⟨mk0, hG, hO⟩ := h0.2.2.2.2.2
  have hT49 := hO.2.2.2.2.1
  rw [pu_gr (k := 5) e2 rfl, Option.bind_some, al_rep_rc hT49, Option.bind_some, k1, Option.bind_some]
  dsimp only
  have e7 : ag_rc g (some 7) 3 = some 7 := by rw [hg]; exact js_rc7 o
  have hbg : fn_Jg_begin N C 7 (Int32.ofNat most) g = some (0, js g re (Int32.ofNat 0) (Int32.ofInt 0) kn rf tr he mi fa 0 (j_b false) most rv rw va sk) := by
    conv => lhs; rw [hg]
    exact c_begin o
  rw [if_pos (pu_ck k2), pu_gr (k := 2) e2 rfl, Option.bind_some, pu_gi (k := 8) e2 rfl, Option.bind_some, e7, Option.bind_some, hbg, Option.bind_some]
  dsimp only
  have hf0 : fa_rep rw ra [] := ⟨Nat.zero_le _, fun i r hi => by cases hi⟩
  -- the heap after begin
  have i1 : cI ow (js g re (Int32.ofNat 0) (Int32.ofInt 0) kn rf tr he mi fa ([] : List j_R).length (j_b false) most rv rw va sk) lc ln M Bs D Ts K most more re 0 (Int32.ofInt 0) [] := cI_js h0 hra hf0
  have big : ∀ q, own ow 0 q → q < g.1 → (js g re (Int32.ofNat 0) (Int32.ofInt 0) kn rf tr he mi fa 0 (j_b false) most rv rw va sk).2.2 q = g.2.2 q := fun q hq _ => js_big (Or.inl (by
    have hq' : ow q = 0 := hq
    have := hO.1 q (by omega)
    omega))
  have k4' : tk_rep (own ow 0) (js g re (Int32.ofNat 0) (Int32.ofInt 0) kn rf tr he mi fa 0 (j_b false) most rv rw va sk) b (w_at Ts x1) := tk_ext (g := g) (g' := js g re (Int32.ofNat 0) (Int32.ofInt 0) kn rf tr he mi fa 0 (j_b false) most rv rw va sk) (Nat.le_refl _) big k4
  have k5 := k4'
  obtain ⟨t1, t2, t3, l', t4, t5⟩ := k4'
  have eb := pu_at t2 t3 t4
  obtain ⟨mk1, e21⟩ := cI_2 i1
  have e21 : ag_at (js g re (Int32.ofNat 0) (Int32.ofInt 0) kn rf tr he mi fa 0 (j_b false) most rv rw va sk) (.ref 2) = _ := e21
  rw [pu_rc eb, Option.bind_some, c_right (by omega) eb t5 hlen.2 x2, Option.bind_some]
  dsimp only
  unfold w_jd s_jd
  cases hri : w_ok (w_at Ts x1) x2 with
  | false =>
    rw [if_pos (show j_b false = 0 from n_e00), if_pos rfl, pu_gr (k := 2) e21 rfl, Option.bind_some, js_rc7 o, Option.bind_some]
    obtain ⟨rv', ra', Gs', z1, z2, z3, z4, z5⟩ := c_jend (N := N) (C := C) (g := g) (re := re) (rd := Int32.ofNat 0) (un := Int32.ofInt 0) (kn := kn) (rf := rf) (tr := tr) (he := he) (mi := mi) (fa := fa) (ov := j_b false) (room := most) (va := va) (sk := sk) o (by omega) hra hf0 (Int32.ofInt (-1))
    have z1 : fn_Jg_end N C 7 (Int32.ofInt (-1)) (js g re (Int32.ofNat 0) (Int32.ofInt 0) kn rf tr he mi fa 0 (j_b false) most rv rw va sk) = _ := z1
    rw [z1, Option.bind_some]
    refine c_fin (ow := ow) rfl rfl rfl (js_big (Or.inl (by decide))) ⟨Gs', ?_, z5, ?_⟩
    · rw [if_pos (Or.inl rfl)] at z4
      exact z4
    · rw [if_neg (by decide)]
      exact cI_js h0 z2 z3
  | true =>
    rw [if_neg (show ¬ j_b true = 0 from n_ne10), if_neg (show ¬ true = false by decide), pu_rc e21, Option.bind_some]
    obtain ⟨pv, p1, p2⟩ := c_layOut (N := N) (C := C) (by omega) i1 ok (b := b) k5 hmem
    have p1 : fn_GC_layOut N C 2 (some b) (js g re (Int32.ofNat 0) (Int32.ofInt 0) kn rf tr he mi fa 0 (j_b false) most rv rw va sk) = some (0, gpv (js g re (Int32.ofNat 0) (Int32.ofInt 0) kn rf tr he mi fa 0 (j_b false) most rv rw va sk) pv) := p1
    have p2 : pl_rep (gpv (js g re (Int32.ofNat 0) (Int32.ofInt 0) kn rf tr he mi fa 0 (j_b false) most rv rw va sk) pv) (w_Ps (w_at Ts x1) Bs D) := p2
    rw [p1, Option.bind_some]
    dsimp only
    rw [gpv_js] at p2 ⊢
    -- the judge's base heap
    have hgb : cI ow (gpv g pv) lc ln M Bs D Ts K most more re rd un Gs := cI_pv h0 pv
    have ob : 75 ≤ (gpv g pv).1 := o
    have hPb : pl_rep (gpv g pv) (w_Ps (w_at Ts x1) Bs D) := pl_js p2
    generalize hPs : w_Ps (w_at Ts x1) Bs D = Ps at hPb hpok ⊢
    have hD4 : Ps[4]? = some D := by rw [← hPs]; rfl
    obtain ⟨w1, w2, w3⟩ := s_w0_ok (most := most) hpok
    have i2 : cI ow (js (gpv g pv) re (Int32.ofNat 0) (Int32.ofInt 0) kn rf tr he mi fa ([] : List j_R).length (j_b false) most rv rw va sk) lc ln M Bs D Ts K most more re 0 (Int32.ofInt 0) [] := cI_js hgb hra hf0
    obtain ⟨mk2, e22⟩ := cI_2 i2
    have e22 : ag_at (js (gpv g pv) re (Int32.ofNat 0) (Int32.ofInt 0) kn rf tr he mi fa 0 (j_b false) most rv rw va sk) (.ref 2) = _ := e22
    obtain ⟨kn3, rf3, tr3, he3, mi3, fa3, rw3, va3, sk3, s1, s2, s3, s4⟩ := c_settle2 (N := N) (C := C) (re := re) (un := Int32.ofInt 0) (kn := kn) (rf := rf) (tr := tr) (he := he) (mi := mi) (fa := fa) (rw := rw) (va := va) (sk := sk) ob (by omega) hra hm2 hPb hm3 hm4 (fun r hr => (w2 r hr).1)
    rw [pu_gr (k := 2) e22 rfl, Option.bind_some, pu_gi (k := 9) e22 rfl, Option.bind_some, js_rc7 ob, Option.bind_some, s1, Option.bind_some]
    dsimp only
    obtain ⟨m1, m2, m3, m4, m5⟩ := j_set_m (room := most) (Ps := Ps) more (s_w0 Ps most) 0 false w1
    have m1 : (j_set most Ps more (s_w0 Ps most) 0 false).1 = (s_m Ps most more).1 := m1
    have m2 : (j_set most Ps more (s_w0 Ps most) 0 false).2.1 = (s_m Ps most more).2.1 := m2
    have m3 : (j_set most Ps more (s_w0 Ps most) 0 false).2.2.1 = (s_m Ps most more).2.2 := m3
    have m4 : (j_set most Ps more (s_w0 Ps most) 0 false).1 = true → (j_set most Ps more (s_w0 Ps most) 0 false).2.2.2 = q_rf (s_m Ps most more).2.1.1 (j_Q 0 Ps) ∧ (s_m Ps most more).2.1.2 = false := m4
    have m5 : wok most (s_m Ps most more).2.1 := m5
    rw [m2] at s2 s3
    have i3 : cI ow (js (gpv g pv) re (Int32.ofNat (s_m Ps most more).2.2) (Int32.ofInt 0) kn3 rf3 tr3 he3 mi3 fa3 (s_m Ps most more).2.1.1.length (j_b (s_m Ps most more).2.1.2) most rv rw3 va3 sk3) lc ln M Bs D Ts K most more re (s_m Ps most more).2.2 (Int32.ofInt 0) (s_m Ps most more).2.1.1 := cI_js hgb hra s2
    obtain ⟨mk3, e23⟩ := cI_2 i3
    rw [m1, m2, m3]
    have h74 : (gpv g pv).2.2 74 = g.2.2 74 := gpv_ne (by decide)
    cases hs : (s_m Ps most more).1 with
    | false =>
      rw [if_pos (show j_b false = 0 from n_e00), if_pos rfl, pu_gr (k := 2) e23 rfl, Option.bind_some, js_rc7 ob, Option.bind_some]
      obtain ⟨rv', ra', Gs', z1, z2, z3, z4, z5⟩ := c_jend (N := N) (C := C) (g := gpv g pv) (re := re) (rd := Int32.ofNat (s_m Ps most more).2.2) (un := Int32.ofInt 0) (kn := kn3) (rf := rf3) (tr := tr3) (he := he3) (mi := mi3) (fa := fa3) (ov := j_b (s_m Ps most more).2.1.2) (room := most) (va := va3) (sk := sk3) ob (by omega) hra s2 ((Int8.ofInt (-2)).toInt32)
      rw [z1, Option.bind_some]
      refine c_fin (ow := ow) rfl rfl rfl ((js_big (Or.inl (by decide))).trans h74) ⟨Gs', ?_, z5, ?_⟩
      · rw [if_pos (Or.inr rfl)] at z4
        exact z4
      · rw [if_neg (by decide)]
        exact cI_js hgb z2 z3
    | true =>
      obtain ⟨u1, u2⟩ := s4 (m1.trans hs)
      obtain ⟨v1, v2⟩ := m4 (m1.trans hs)
      rw [m2] at u1
      rw [v1] at u2
      rw [u1, u2] at e23 ⊢
      obtain ⟨tr4, he4, mi4, fa4, rw4, va4, sk4, y1, y2⟩ := c_verdict (N := N) (C := C) (re := re) (rd := Int32.ofNat (s_m Ps most more).2.2) (un := Int32.ofInt 0) (tr := tr3) (he := he3) (mi := mi3) (fa := fa3) (va := va3) (sk := sk3) (f := q_rf (s_m Ps most more).2.1.1 (j_Q 0 Ps)) ob (by omega) hra hm2 hPb hD4 s2 s3
      obtain ⟨j1, j2⟩ := j_same (room := most) hpok.1 hD4 (fun i L hL => ⟨(hpok.2.1 i L hL).1, fun x hx => ⟨((hpok.2.1 i L hL).2 x hx).1.2.1, ((hpok.2.1 i L hL).2 x hx).1.2.2.2.2.1, ((hpok.2.1 i L hL).2 x hx).2⟩⟩) hpok.2.2 m5 v2
      rw [j1, ← j2] at y1
      have y1 : fn_Jg_verdict N C 7 (js (gpv g pv) re (Int32.ofNat (s_m Ps most more).2.2) (Int32.ofInt 0) (s_m Ps most more).2.1.1.length (j_b (q_rf (s_m Ps most more).2.1.1 (j_Q 0 Ps))) tr3 he3 mi3 fa3 (s_m Ps most more).2.1.1.length (j_b (s_m Ps most more).2.1.2) most rv rw3 va3 sk3) = some (s_a Ps (s_m Ps most more).2.1.1, js (gpv g pv) re (Int32.ofNat (s_m Ps most more).2.2) ((j_Q 0 Ps).foldl (d_1 (s_m Ps most more).2.1.1) (false, 0, Int32.ofInt 0, false)).2.2.1 (s_m Ps most more).2.1.1.length (j_b (q_rf (s_m Ps most more).2.1.1 (j_Q 0 Ps))) tr4 he4 mi4 fa4 (s_m Ps most more).2.1.1.length (j_b (s_m Ps most more).2.1.2) most rv rw4 va4 sk4) := y1
      rw [if_neg (show ¬ j_b true = 0 from n_ne10), if_neg (show ¬ true = false by decide), pu_gr (k := 2) e23 rfl, Option.bind_some, Option.bind_some, js_rc7 ob, Option.bind_some, y1, Option.bind_some]
      dsimp only
      rw [js_rc7 ob, Option.bind_some]
      obtain ⟨rv', ra', Gs', z1, z2, z3, z4, z5⟩ := c_jend (N := N) (C := C) (g := gpv g pv) (re := re) (rd := Int32.ofNat (s_m Ps most more).2.2) (un := ((j_Q 0 Ps).foldl (d_1 (s_m Ps most more).2.1.1) (false, 0, Int32.ofInt 0, false)).2.2.1) (kn := (s_m Ps most more).2.1.1.length) (rf := j_b (q_rf (s_m Ps most more).2.1.1 (j_Q 0 Ps))) (tr := tr4) (he := he4) (mi := mi4) (fa := fa4) (ov := j_b (s_m Ps most more).2.1.2) (room := most) (va := va4) (sk := sk4) ob (by omega) hra y2 (s_a Ps (s_m Ps most more).2.1.1)
      rw [z1, Option.bind_some]
      have ne := s_a_ne hpok.2.2 (s_m Ps most more).2.1.1
      refine c_fin (ow := ow) rfl rfl rfl ((js_big (Or.inl (by decide))).trans h74) ⟨Gs', ?_, z5, ?_⟩
      · rw [if_neg (fun q => q.elim ne.1 ne.2)] at z4
        exact z4
      · exact cI_js hgb z2 z3
end CA3
