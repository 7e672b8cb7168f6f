/-! ### Calls on objects -/
section AGO
variable {P : ag_P} {l : Launch} {G : ag_G} {M Y : ag_M} {d : Nat} {Z : ag_Z} {pc : Nat} {lv : ag_L} {st as : List Value} {h : ag_H} {Q : Option Value → ag_H → Prop}
theorem ag_recv {s : State} {H : Heap} (hK : ag_Kn P G s) (hr : ag_R P G h H) {a ci : Nat} {q : vw_C} {fs : List Value} (hc : P.2.1[ci]? = some q) (ha : ag_at h (.ref a) = some (.inr (ci, fs))) : ∃ cell : Cell, H[ag_ad G a]? = some cell ∧ cell.vm.isStatics = false ∧ s.vm.findClass q.1 = some cell.cls := by
  obtain ⟨j, hj, g1, g2⟩ := ag_at_some ha
  cases hj
  have hat := hr.2.2.2.2.2 j g1
  rw [g2] at hat
  exact va_recv (D := ag_D G) (q0 := 0) hK.1 (ag_one hat) hc rfl
/-- what a call finds: room, words, the stack -/
theorem ag_rooms {n0 s0 : Nat} (h1 : n0 ≤ h.1) (h2 : s0 ≤ h.2.1) (h3 : h.1 ≤ ag_cN G) (h4 : h.2.1 ≤ ag_cS G) (h5 : Y.2.2.1 ≤ 41) :
    ((ag_rm G d h.1 h.2.1).frames + 1 ≤ (ag_rm G (d + 1) n0 s0).frames ∧ 8 + (Y.2.2.1 + 11) + (ag_rm G d h.1 h.2.1).locals ≤ (ag_rm G (d + 1) n0 s0).locals) ∧
    (h.1 - n0 + (ag_cN G - h.1) ≤ (ag_rm G (d + 1) n0 s0).cells ∧ h.2.1 - s0 + (ag_cS G - h.2.1) ≤ (ag_rm G (d + 1) n0 s0).slots) := by
  refine ⟨⟨?_, ?_⟩, ?_, ?_⟩
  · show d + 8 + 1 ≤ d + 1 + 8; omega
  · show 8 + (Y.2.2.1 + 11) + (60 * d + 200) ≤ 60 * (d + 1) + 200; omega
  · show _ ≤ ag_cN G - n0; omega
  · show _ ≤ ag_cS G - s0; omega
theorem ag_callv {ix a ci : Nat} {q : vw_C} {fs : List Value} (hd : decode M.2.1 pc = .ok (.invokevirtual ix, 3)) (hl : ag_ml P M.1.cls ix Y as.length) (hin : Cond.instanceMethod Y.1 ∈ P.1) (hc : P.2.1[ci]? = some q) (hse : Cond.selects q.1 Y.1 Y.1 ∈ P.1) (ha : ag_at h (.ref a) = some (.inr (ci, fs)))
    (hw : (st.map fun v => v.category).sum ≤ 8) (hM : ag_Met P l G Y d (.ref a :: as) h Q) (k : ∀ v h', Q v h' → ag_ev P l G M (d + 1) Z (pc + 3) lv (v.toList ++ st) h') : ag_ev P l G M (d + 1) Z pc lv (as.reverse ++ .ref a :: st) h := by
  intro p e s m args below meth c ls H locs n0 s0 X h0 h1 hlv hr hS
  obtain ⟨g1, g2, g3, g4, g5, g6⟩ := hl
  have hK := X.2.2.2.2.2.2.2
  have hts := hK.hts (args := args)
  have hz := hK.2.2.2.2.1.2
  have hle := hS.1
  refine ag_leW h1 hz hr.2.2.1 fun hs01 => ?_
  have hr2 := hr.2.1
  obtain ⟨⟨hfr, hlo⟩, hf⟩ := ag_rooms (G := G) (d := d) (Y := Y) (h := h) (n0 := n0) (s0 := s0) (by omega) hs01 hr.2.2.2.1 hr.2.2.2.2.1 g6
  have hp : PreV s H q.1 (ag_ad G a) (ag_Pc P G (.ref a :: as) h) (as.map (ag_v G)) := ⟨ag_blind P G _ h, ag_recv hK hr hc ha, fun U hU hW => ⟨rfl, hK.to hW (by rw [hU]; exact hS), by rw [hU]; exact hr⟩⟩
  have hstk : (F0 m pc ls ((as.reverse ++ .ref a :: st).map (ag_v G))).stack = (as.map (ag_v G)).reverse ++ .ref (ag_ad G a) :: st.map (ag_v G) := by
    show (as.reverse ++ .ref a :: st).map (ag_v G) = _
    rw [List.map_append, List.map_reverse]
    rfl
  have hwt := lv_room (m := m) (pc := pc) (ls := ls) (rest := (as.reverse ++ .ref a :: st).map (ag_v G)) (st := st.map (ag_v G)) (by rw [ag_catsum]; exact hw)
  have go : va_Run p l e (ag_rm G (d + 1) n0 s0) s m args below meth c H locs (h.1 - n0) (h.2.1 - s0) (ag_cN G - h.1) (ag_cS G - h.2.1) (F0 m pc ls ((as.reverse ++ .ref a :: st).map (ag_v G))) (st.map (ag_v G)) (ag_Qc P G Q (Value.ref (ag_ad G a) :: as.map (ag_v G)).toArray) (ag_A G) := by
    rcases g1 with g1 | ⟨host, g1⟩
    · exact va_runV (Ts := P.1) (n := as.length) ⟨X.1, X.2.1, X.2.2.1, X.2.2.2.2.2.1, hts⟩ hM ⟨⟨rfl, rfl, hfr, hlo, ag_words hK g3, List.mem_singleton.mpr rfl, hts _ g3, hts _ g2, g4, ag_lenOf g5, hts _ g1⟩, hts _ hin, hts _ hse⟩ hp rfl (by rw [List.length_map]) hlv.1 hstk hwt hd hf
    · exact va_runVN (Ts := P.1) (n := as.length) ⟨X.1, X.2.1, X.2.2.1, X.2.2.2.2.2.1, hts⟩ hM ⟨⟨⟨rfl, rfl, hfr, hlo, ag_words hK g3, List.mem_singleton.mpr rfl⟩, hts _ g3, hts _ g2, g4, ag_lenOf g5, hts _ g1⟩, hts _ hin, hts _ hse⟩ hp rfl (by rw [List.length_map]) hlv.1 hstk hwt hd hf
  refine ag_after go hS fun v h' H1 locs1 hq hR hS1 => ?_
  refine ag_tightW h0 h1 hz hR.2.1 hR.2.2.1 ?_
  rw [ag_ovm]
  exact k v h' hq p e s m args below meth c ls H1 locs1 n0 s0 X h0 h1 hlv hR hS1
theorem ag_calli {ix a : Nat} (hd : decode M.2.1 pc = .ok (.invokespecial ix, 3)) (hl : ag_ml P M.1.cls ix Y as.length) (hin : Cond.instanceMethod Y.1 ∈ P.1) (hnm : Y.1.name = "<init>") (hvo : Y.2.2.2.1 = none)
    (hw : (st.map fun v => v.category).sum ≤ 8) (hM : ag_Met P l G Y d (.ref a :: as) h Q) (k : ∀ v h', Q v h' → ag_ev P l G M (d + 1) Z (pc + 3) lv (v.toList ++ st) h') : ag_ev P l G M (d + 1) Z pc lv (as.reverse ++ .ref a :: st) h := by
  intro p e s m args below meth c ls H locs n0 s0 X h0 h1 hlv hr hS
  obtain ⟨g1, g2, g3, g4, g5, g6⟩ := hl
  have hK := X.2.2.2.2.2.2.2
  have hts := hK.hts (args := args)
  have hz := hK.2.2.2.2.1.2
  have hle := hS.1
  refine ag_leW h1 hz hr.2.2.1 fun hs01 => ?_
  have hr2 := hr.2.1
  obtain ⟨⟨hfr, hlo⟩, hf⟩ := ag_rooms (G := G) (d := d) (Y := Y) (h := h) (n0 := n0) (s0 := s0) (by omega) hs01 hr.2.2.2.1 hr.2.2.2.2.1 g6
  have hp : PreS s H (ag_Pc P G (.ref a :: as) h) (.ref (ag_ad G a) :: as.map (ag_v G)) := ⟨ag_blind P G _ h, fun U hU hW => ⟨rfl, hK.to hW (by rw [hU]; exact hS), by rw [hU]; exact hr⟩⟩
  have hstk : (F0 m pc ls ((as.reverse ++ .ref a :: st).map (ag_v G))).stack = (as.map (ag_v G)).reverse ++ .ref (ag_ad G a) :: st.map (ag_v G) := by
    show (as.reverse ++ .ref a :: st).map (ag_v G) = _
    rw [List.map_append, List.map_reverse]
    rfl
  have hwt := lv_room (m := m) (pc := pc) (ls := ls) (rest := (as.reverse ++ .ref a :: st).map (ag_v G)) (st := st.map (ag_v G)) (by rw [ag_catsum]; exact hw)
  have g3' : Cond.code Y.1 Y.2.1 Y.2.2.1 none ∈ P.1 := by rw [← hvo]; exact g3
  have hM' : Met l Y.1 [Cond.code Y.1 Y.2.1 Y.2.2.1 none] (ag_rm G d h.1 h.2.1) (ag_Pc P G (.ref a :: as) h) (ag_Qc P G Q) (ag_cN G - h.1) (ag_cS G - h.2.1) (ag_A G) := by
    have := hM
    unfold ag_Met at this
    rw [hvo] at this
    exact this
  have go : va_Run p l e (ag_rm G (d + 1) n0 s0) s m args below meth c H locs (h.1 - n0) (h.2.1 - s0) (ag_cN G - h.1) (ag_cS G - h.2.1) (F0 m pc ls ((as.reverse ++ .ref a :: st).map (ag_v G))) (st.map (ag_v G)) (ag_Qc P G Q (Value.ref (ag_ad G a) :: as.map (ag_v G)).toArray) (ag_A G) := by
    rcases g1 with g1 | ⟨host, g1⟩
    · exact va_runI (Ts := P.1) (n := as.length) ⟨X.1, X.2.1, X.2.2.1, X.2.2.2.2.2.1, hts⟩ hM' ⟨⟨rfl, rfl, hfr, hlo, ag_words hK g3', List.mem_singleton.mpr rfl, hts _ g3', hts _ g2, g4, ag_lenOf g5, hts _ g1⟩, hnm, hts _ hin⟩ hp rfl (by rw [List.length_map]) hlv.1 hstk hwt hd hf
    · exact va_runIN (Ts := P.1) (n := as.length) ⟨X.1, X.2.1, X.2.2.1, X.2.2.2.2.2.1, hts⟩ hM' ⟨⟨⟨rfl, rfl, hfr, hlo, ag_words hK g3', List.mem_singleton.mpr rfl⟩, hts _ g3', hts _ g2, g4, ag_lenOf g5, hts _ g1⟩, hnm, hts _ hin⟩ hp rfl (by rw [List.length_map]) hlv.1 hstk hwt hd hf
  refine ag_after go hS fun v h' H1 locs1 hq hR hS1 => ?_
  refine ag_tightW h0 h1 hz hR.2.1 hR.2.2.1 ?_
  rw [ag_ovm]
  exact k v h' hq p e s m args below meth c ls H1 locs1 n0 s0 X h0 h1 hlv hR hS1
/-- the constructor of Object -/
theorem ag_obji {ix a : Nat} (hd : decode M.2.1 pc = .ok (.invokespecial ix, 3)) (hl : Cond.methodLink M.1.cls ix objectInit ∈ P.1) (hin : Cond.instanceMethod objectInit ∈ P.1) (hco : Cond.code objectInit ⟨#[0xb1]⟩ 1 none ∈ P.1) (hw : (st.map fun v => v.category).sum ≤ 8)
    (k : ag_ev P l G M d Z (pc + 3) lv st h) : ag_ev P l G M d Z pc lv (.ref a :: st) h := by
  intro p e s m args below meth c ls H locs n0 s0 X h0 h1 hlv hr hS
  have hts := X.2.2.2.2.2.2.2.hts (args := args)
  refine W.objInit X.1 X.2.1 X.2.2.2.2.2.1 (hts _ hl) (hts _ hin) (hts _ hco) rfl (by rw [X.2.2.1]; exact hlv.1) (a := ag_ad G a) (rest := st.map (ag_v G)) rfl hd (show 1 ≤ d + 8 by omega) ?_ (k p e s m args below meth c ls H locs n0 s0 X h0 h1 hlv hr hS)
  show 2 * 0 + ((st.map (ag_v G)).map fun v => v.category).sum + 12 ≤ 60 * d + 200
  rw [ag_catsum]
  omega
end AGO
