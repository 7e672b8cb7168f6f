/-! ### Casts, comparisons of references, the static array, calls through an interface -/
section AGF
variable {P : ag_P} {l : Launch} {G : ag_G} {M Y : ag_M} {d : Nat} {Z : ag_Z} {pc : Nat} {lv : ag_L} {st as : List Value} {h : ag_H} {Q : Option Value → ag_H → Prop}
theorem ag_ccast {ix a ci : Nat} {nm : String} {q : vw_C} {fs : List Value} (hd : decode M.2.1 pc = .ok (.checkcast ix, 3)) (hw : Cond.classLink M.1.cls ix nm ∈ P.1) (hc : P.2.1[ci]? = some q) (hcs : Cond.castable q.1 nm ∈ P.1 ∨ q.1 = nm) (ha : ag_at h (.ref a) = some (.inr (ci, fs)))
    (k : ag_ev P l G M d Z (pc + 3) lv (.ref a :: st) h) : ag_ev P l G M d Z pc lv (.ref a :: st) h := by
  intro p e s m args below meth c ls H locs n0 s0 X h0 h1 hl hr hS
  have hK := X.2.2.2.2.2.2.2
  have hk := k p e s m args below meth c ls H locs n0 s0 X h0 h1 hl hr hS
  rcases hcs with hcs | hcs
  · exact va_castY X.1 X.2.1 X.2.2.2.2.2.1 (hK.hts _ hw) (hK.2.1 _ hcs) (ag_recv hK hr hc ha) hd hk
  · subst hcs
    exact va_castS X.1 X.2.1 X.2.2.2.2.2.1 (hK.hts _ hw) (hK.1.1 ci _ hc).2 (ag_recv hK hr hc ha) hd hk
theorem ag_ccastN {ix : Nat} (hd : decode M.2.1 pc = .ok (.checkcast ix, 3)) (k : ag_ev P l G M d Z (pc + 3) lv (.null :: st) h) : ag_ev P l G M d Z pc lv (.null :: st) h := by
  intro p e s m args below meth c ls H locs n0 s0 X h0 h1 hl hr hS
  exact lv_castN X.1 X.2.1 hd (k p e s m args below meth c ls H locs n0 s0 X h0 h1 hl hr hS)
theorem ag_inj {s : State} (hK : ag_Kn P G s) {rx ry : Option Nat} (hx : rx ≠ some 0) (hy : ry ≠ some 0) (he : rx.map (ag_ad G) = ry.map (ag_ad G)) : rx = ry := by
  have hlt : ag_e0 G < ag_sz G := by
    obtain ⟨cell, -, -, -, -, -, -, hA⟩ := hK.2.2.2.2.2.2.1
    exact Nat.not_le.mp hA
  have key : ∀ a b : Nat, a ≠ 0 → b ≠ 0 → ag_ad G a = ag_ad G b → a = b := by
    intro a b ha hb hab
    match a, b, ha, hb with
    | 1, 1, _, _ => rfl
    | 1, j + 2, _, _ => exact absurd (show ag_e0 G = ag_sz G + j from hab) (by omega)
    | i + 2, 1, _, _ => exact absurd (show ag_sz G + i = ag_e0 G from hab) (by omega)
    | i + 2, j + 2, _, _ =>
      have : ag_sz G + i = ag_sz G + j := hab
      omega
  cases rx with
  | none => cases ry with
    | none => rfl
    | some b => cases he
  | some a => cases ry with
    | none => cases he
    | some b => rw [key a b (fun q => hx (by rw [q])) (fun q => hy (by rw [q])) (Option.some.inj he)]
theorem ag_acmp_eq {rx ry : Option Nat} {off : Int} {tgt : Nat} (hd : decode M.2.1 pc = .ok (.if_acmp .eq off, 3)) (ht : (pc : Int) + off = (tgt : Int)) (hx : rx ≠ some 0) (hy : ry ≠ some 0) (kt : rx = ry → ag_ev P l G M d Z tgt lv st h) (kf : ¬ rx = ry → ag_ev P l G M d Z (pc + 3) lv st h) : ag_ev P l G M d Z pc lv (ag_rf ry :: ag_rf rx :: st) h := by
  intro p e s m args below meth c ls H locs n0 s0 X h0 h1 hl hr hS
  rw [List.map_cons, List.map_cons, ag_v_rf, ag_v_rf]
  exact lv_acmp_eq X.1 X.2.1 hd ht (fun q => kt (ag_inj X.2.2.2.2.2.2.2 hx hy q) p e s m args below meth c ls H locs n0 s0 X h0 h1 hl hr hS) (fun q => kf (fun z => q (by rw [z])) p e s m args below meth c ls H locs n0 s0 X h0 h1 hl hr hS)
theorem ag_acmp_ne {rx ry : Option Nat} {off : Int} {tgt : Nat} (hd : decode M.2.1 pc = .ok (.if_acmp .ne off, 3)) (ht : (pc : Int) + off = (tgt : Int)) (hx : rx ≠ some 0) (hy : ry ≠ some 0) (kt : ¬ rx = ry → ag_ev P l G M d Z tgt lv st h) (kf : rx = ry → ag_ev P l G M d Z (pc + 3) lv st h) : ag_ev P l G M d Z pc lv (ag_rf ry :: ag_rf rx :: st) h := by
  intro p e s m args below meth c ls H locs n0 s0 X h0 h1 hl hr hS
  rw [List.map_cons, List.map_cons, ag_v_rf, ag_v_rf]
  exact lv_acmp_ne X.1 X.2.1 hd ht (fun q => kt (fun z => q (by rw [z])) p e s m args below meth c ls H locs n0 s0 X h0 h1 hl hr hS) (fun q => kf (ag_inj X.2.2.2.2.2.2.2 hx hy q) p e s m args below meth c ls H locs n0 s0 X h0 h1 hl hr hS)
theorem ag_gets {ix : Nat} (hd : decode M.2.1 pc = .ok (.getstatic ix, 3)) (hw : Cond.fieldLink M.1.cls ix "java/util/ArrayList" "DEFAULTCAPACITY_EMPTY_ELEMENTDATA" "[Ljava/lang/Object;" ∈ P.1) (k : ag_ev P l G M d Z (pc + 3) lv (.ref 1 :: st) h) : ag_ev P l G M d Z pc lv st h := by
  intro p e s m args below meth c ls H locs n0 s0 X h0 h1 hl hr hS
  have hK := X.2.2.2.2.2.2.2
  exact va_gets X.1 X.2.1 hK.2.2.2.2.2.1 hS X.2.2.2.2.2.1 (hK.hts _ hw) (fun _ hx => hx) hd (k p e s m args below meth c ls H locs n0 s0 X h0 h1 hl hr hS)
/-- the interface method x that the entry ix of the class own's pool names: on an object of the class C the method Y -/
def ag_il (P : ag_P) (own : String) (ix : Nat) (C : String) (x : MethodName) (Y : ag_M) (n : Nat) : Prop :=
  (Cond.methodLink own ix x ∈ P.1 ∧ Cond.declares x ∈ P.1 ∧ Cond.interfaceMethod x.cls x.cls x.name x.desc ∈ P.1 ∧ Cond.selects C x Y.1 ∈ P.1 ∧ Cond.instanceMethod Y.1 ∈ P.1 ∧ Cond.publicMethod Y.1 ∈ P.1 ∧ Cond.unhidden C x.name x.desc ∈ P.1 ∧ Cond.castable C x.cls ∈ P.1) ∧
    Cond.initialized Y.1.cls ∈ P.1 ∧ Cond.code Y.1 Y.2.1 Y.2.2.1 Y.2.2.2.1 ∈ P.1 ∧ (x.cls ≠ "java/lang/invoke/MethodHandle" ∧ x.cls ≠ "java/lang/invoke/VarHandle") ∧ (parseMethodDescriptor x.desc).map (fun d => d.parameters.length) = some n ∧ Y.2.2.1 ≤ 41
theorem ag_callf {ix ct a ci : Nat} {q : vw_C} {x : MethodName} {fs : List Value} (hd : decode M.2.1 pc = .ok (.invokeinterface ix ct, 5)) (hc : P.2.1[ci]? = some q) (hl : ag_il P M.1.cls ix q.1 x Y as.length) (ha : ag_at h (.ref a) = some (.inr (ci, fs)))
    (hw : (st.map fun v => v.category).sum ≤ 8) (hM : ag_Met P l G Y d (.ref a :: as) h Q) (k : ∀ v h', Q v h' → ag_ev P l G M (d + 1) Z (pc + 5) lv (v.toList ++ st) h') : ag_ev P l G M (d + 1) Z pc lv (as.reverse ++ .ref a :: st) h := by
  intro p e s m args below meth c ls H locs n0 s0 X h0 h1 hlv hr hS
  obtain ⟨⟨w1, w2, w3, w4, w5, w6, w7, w8⟩, g2, g3, g4, g5, g6⟩ := hl
  have hK := X.2.2.2.2.2.2.2
  have hts := hK.hts (args := args)
  have hz := hK.2.2.2.2.1.2
  have hle := hS.1
  refine ag_leW h1 hz hr.2.2.1 fun hs01 => ?_
  have hr2 := hr.2.1
  obtain ⟨⟨hfr, hlo⟩, hf⟩ := ag_rooms (G := G) (d := d) (Y := Y) (h := h) (n0 := n0) (s0 := s0) (by omega) hs01 hr.2.2.2.1 hr.2.2.2.2.1 g6
  have hp : PreV s H q.1 (ag_ad G a) (ag_Pc P G (.ref a :: as) h) (as.map (ag_v G)) := ⟨ag_blind P G _ h, ag_recv hK hr hc ha, fun U hU hW => ⟨rfl, hK.to hW (by rw [hU]; exact hS), by rw [hU]; exact hr⟩⟩
  have hstk : (F0 m pc ls ((as.reverse ++ .ref a :: st).map (ag_v G))).stack = (as.map (ag_v G)).reverse ++ .ref (ag_ad G a) :: st.map (ag_v G) := by
    show (as.reverse ++ .ref a :: st).map (ag_v G) = _
    rw [List.map_append, List.map_reverse]
    rfl
  have hwt := lv_room (m := m) (pc := pc) (ls := ls) (rest := (as.reverse ++ .ref a :: st).map (ag_v G)) (st := st.map (ag_v G)) (by rw [ag_catsum]; exact hw)
  have hlen : ∀ sig, parseMethodDescriptor x.desc = some sig → as.length = sig.parameters.length := by
    intro sig hs
    rw [hs] at g5
    exact (Option.some.inj g5).symm
  have go : va_Run5 p l e (ag_rm G (d + 1) n0 s0) s m args below meth c H locs (h.1 - n0) (h.2.1 - s0) (ag_cN G - h.1) (ag_cS G - h.2.1) (F0 m pc ls ((as.reverse ++ .ref a :: st).map (ag_v G))) (st.map (ag_v G)) (ag_Qc P G Q (Value.ref (ag_ad G a) :: as.map (ag_v G)).toArray) (ag_A G) :=
    va_runF (Ts := P.1) (n := as.length) (hK.1.1 ci _ hc).2 ⟨X.1, X.2.1, X.2.2.1, X.2.2.2.2.2.1, hts⟩ hM ⟨⟨rfl, rfl, hfr, hlo, ag_words hK g3, List.mem_singleton.mpr rfl⟩, hts _ w1, hts _ w2, hts _ w3, hts _ w4, hts _ w5, hts _ w6, hts _ w7, hts _ w8, hts _ g2, hts _ g3, g4, hlen⟩ hp rfl (by rw [List.length_map]) hlv.1 hstk hwt hd hf
  refine ag_after5 go hS fun v h' H1 locs1 hq hR hS1 => ?_
  refine ag_tightW h0 h1 hz hR.2.1 hR.2.2.1 ?_
  rw [ag_ovm]
  exact k v h' hq p e s m args below meth c ls H1 locs1 n0 s0 X h0 h1 hlv hR hS1
end AGF
