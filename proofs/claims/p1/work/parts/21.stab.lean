/-! ### Which words stay true as the tables warm -/
def ag_gd (w : Cond) : Bool := match w with
  | .arrayClass _ => true
  | .arrayOver _ => true
  | .methodLinkNest _ _ _ _ => true
  | .fieldLinkNest _ _ _ _ _ _ => true
  | .not (.castable _ _) => true
  | .declares _ => true
  | .publicMethod _ => true
  | .privateMethod _ => true
  | .unhidden _ _ _ => true
  | .castable _ _ => true
  | .interfaceMethod r o _ _ => r == o && r != "java/lang/invoke/MethodHandle" && r != "java/lang/invoke/VarHandle"
  | w => w.onTables && w.keeps
theorem ag_sbT {w : Cond} (h1 : w.onTables = true) (h2 : ∀ (s U : State), s.WarmedH U.vm → va_Nw w s → w.before #[] (s.setVm U.vm) = true) : ag_sb w :=
  ⟨fun A B U h => va_any h1 h, fun s U hW h => va_tabs h1 (rfl : (s.setVm U.vm).vm = U.vm) (h2 s U hW h)⟩
theorem ag_sbK {w : Cond} (h : (w.onTables && w.keeps) = true) : ag_sb w :=
  ⟨fun A B U h' => va_any ((Bool.and_eq_true _ _).mp h).1 h', fun s U hW h' => word_at hW (Or.inl h) h'⟩
theorem ag_stab (w : Cond) (h : ag_gd w = true) : ag_sb w := by
  unfold ag_gd at h
  split at h
  · exact ⟨fun A B U h => h, fun s U hW h => word_at hW (Or.inr ⟨_, rfl⟩) h⟩
  · refine ⟨fun A B U h => h, fun s U hW h => ?_⟩
    have h1 := (Cond.arrayOver_setVmC (args := #[]) hW.alike _).trans h
    exact h1
  · exact ag_sbT rfl fun s U hW h => va_Nw.warmM (U := s.setVm U.vm) hW h
  · exact ag_sbT rfl fun s U hW h => va_Nw.warmF (U := s.setVm U.vm) hW h
  · refine ⟨fun A B U h => h, fun s U hW h => ?_⟩
    have h1 := Cond.castAtom_setVm (args := #[]) (s := s) hW.alike (.not (.castable _ _)) rfl h
    exact h1
  · exact ag_sbT rfl fun s U hW h => Cond.faceAtom_setVm hW.alike _ rfl h
  · exact ag_sbT rfl fun s U hW h => Cond.faceAtom_setVm hW.alike _ rfl h
  · exact ag_sbT rfl fun s U hW h => Cond.faceAtom_setVm hW.alike _ rfl h
  · exact ag_sbT rfl fun s U hW h => Cond.faceAtom_setVm hW.alike _ rfl h
  · exact ag_sbT rfl fun s U hW h => Cond.faceAtom_setVm hW.alike _ rfl h
  · exact ag_sbT rfl fun s U hW h' => Cond.faceAtom_setVm hW.alike _ h h'
  · exact ag_sbK h
/-! ### A static call of a method with a table of handlers -/
def ag_MetW (P : ag_P) (l : Launch) (G : ag_G) (M : ag_M) (d : Nat) (as : List Value) (h : ag_H) (Q : Option Value → ag_H → Prop) : Prop :=
  Met l M.1 [Cond.codeWith M.1 M.2.1 M.2.2.1 M.2.2.2.1 M.2.2.2.2] (ag_rm G d h.1 h.2.1) (ag_Pc P G as h) (ag_Qc P G Q) (ag_cN G - h.1) (ag_cS G - h.2.1) (ag_A G)
section AGU
variable {P : ag_P} {l : Launch} {G : ag_G} {M Y : ag_M} {d : Nat} {Z : ag_Z} {pc : Nat} {lv : ag_L} {st as : List Value} {h : ag_H} {Q : Option Value → ag_H → Prop}
theorem ag_metW (hy : plainName M.1.cls = true) (hn : (lg_sl as).length ≤ M.2.2.1) (k : ag_ev P l G M d (ag_ret P G Q) 0 (lv_args 0 as) [] h) : ag_MetW P l G M d as h Q := by
  refine va_MetW (cc := M.2.1) (maxL := M.2.2.1) (ret := M.2.2.2.1) (hh := M.2.2.2.2) hy rfl ?_
  intro p e s m args below meth c s₁ B hml hv
  obtain ⟨rfl, hK, hR⟩ := hv
  have htab : c.exceptionTable.toList.map (fun x => (x.startPc, x.endPc, x.handlerPc, x.catchType)) = M.2.2.2.2 := by
    obtain ⟨m9, meth9, c9, hn9, g1, g2, g3, g4, g5, -⟩ := Cond.codeWith_spec (atoms_spec (ws := [Cond.codeWith M.1 M.2.1 M.2.2.1 M.2.2.2.1 M.2.2.2.2]) B.pre _ (List.mem_singleton.mpr rfl))
    cases B.named.symm.trans hn9
    cases B.method.symm.trans g1
    cases (Stand.of_body B).code.symm.trans g2
    exact g5
  have X : ag_X P G M p s m meth c := ⟨B.exec, B.bytes, hml, B.returns, ⟨B.notSynchronized, htab, hR.ns⟩, findClass_of_methodNamed B.named, (name_of_methodNamed B.named B.method).1, hK⟩
  have hl := lv_entry (as.map (ag_v G)) (n := M.2.2.1) (by rw [ag_slen]; exact hn)
  rw [lg_entry_eq]
  generalize (lg_sl (as.map (ag_v G)) ++ List.replicate (M.2.2.1 - (lg_sl (as.map (ag_v G))).length) Slot.unset).toArray = ls at hl ⊢
  rw [ag_largs] at hl
  have hk := k p e s m (as.map (ag_v G)).toArray below meth c ls s.heap [] h.1 h.2.1 X hR.2.1 hR.2.2.1 hl hR va_S.rf
  rw [Nat.sub_self, Nat.sub_self] at hk
  exact hk
theorem ag_callsW {ix : Nat} (hd : decode M.2.1 pc = .ok (.invokestatic ix, 3)) (hlk : Cond.methodLink M.1.cls ix Y.1 ∈ P.1) (hini : Cond.initialized Y.1.cls ∈ P.1) (hco : Cond.codeWith Y.1 Y.2.1 Y.2.2.1 Y.2.2.2.1 Y.2.2.2.2 ∈ P.1) (hmh : Y.1.cls ≠ "java/lang/invoke/MethodHandle" ∧ Y.1.cls ≠ "java/lang/invoke/VarHandle")
    (hnp : (parseMethodDescriptor Y.1.desc).map (fun d => d.parameters.length) = some as.length) (hmx : Y.2.2.1 ≤ 41) (hst : Cond.static Y.1 ∈ P.1) (hw : (st.map fun v => v.category).sum ≤ 8) (hM : ag_MetW P l G Y d as h Q)
    (k : ∀ v h', Q v h' → ag_ev P l G M (d + 1) Z (pc + 3) lv (v.toList ++ st) h') : ag_ev P l G M (d + 1) Z pc lv (as.reverse ++ st) h := by
  intro p e s m args below meth c ls H locs n0 s0 X h0 h1 hlv hr hS
  have hK := X.2.2.2.2.2.2.2
  have hts := hK.hts (args := args)
  have hz := hK.2.2.2.2.1.2
  have hle := hS.1
  refine ag_leW h1 hz hr.2.2.1 fun hs01 => ?_
  have hr2 := hr.2.1
  obtain ⟨⟨hfr, hlo⟩, hf⟩ := ag_rooms (G := G) (d := d) (Y := Y) (h := h) (n0 := n0) (s0 := s0) (by omega) hs01 hr.2.2.2.1 hr.2.2.2.2.1 hmx
  have hstk : (F0 m pc ls ((as.reverse ++ st).map (ag_v G))).stack = (as.map (ag_v G)).reverse ++ st.map (ag_v G) := by
    show (as.reverse ++ st).map (ag_v G) = _
    rw [List.map_append, List.map_reverse]
  have hwt := lv_room (m := m) (pc := pc) (ls := ls) (rest := (as.reverse ++ st).map (ag_v G)) (st := st.map (ag_v G)) (by rw [ag_catsum]; exact hw)
  have go : va_Run p l e (ag_rm G (d + 1) n0 s0) s m args below meth c H locs (h.1 - n0) (h.2.1 - s0) (ag_cN G - h.1) (ag_cS G - h.2.1) (F0 m pc ls ((as.reverse ++ st).map (ag_v G))) (st.map (ag_v G)) (ag_Qc P G Q (as.map (ag_v G)).toArray) (ag_A G) := by
    have hB : Back l (ag_rm G (d + 1) n0 s0) p e below s args Y.1 3 8 (PreOf (ag_rm G (d + 1) n0 s0) (ag_cN G - h.1) (ag_cS G - h.2.1) (ag_Pc P G as h)) (PostOf (ag_Qc P G Q) (ag_cN G - h.1) (ag_cS G - h.2.1) (ag_A G)) :=
      va_backW (bytes := Y.2.1) (maxL := Y.2.2.1) (ret := Y.2.2.2.1) (hh := Y.2.2.2.2) hM (ag_blind P G as h) rfl rfl hfr hlo (ag_words hK hco) (List.mem_singleton.mpr rfl) (fun a' U hW => ag_words hK hini _ (List.mem_singleton.mpr rfl) a' U hW)
    intro V hV X0
    obtain ⟨mk, methM, cM, hnamed, hmethM, -, -, -, -, -, -, hsigM⟩ := Cond.codeWith_spec (hts _ hco)
    have hstatic : methM.isStatic = true := Cond.static_spec hnamed hmethM (hts _ hst)
    obtain ⟨kP, hkP, -⟩ := className_of_methodNamed hnamed
    have hinitP : kP.init = .initialized := Cond.initialized_spec (findClass_of_methodNamed hnamed) hkP (hts _ hini)
    obtain ⟨vm₁, X₁, hstep₁⟩ := X0.invokestatic X.1 X.2.2.2.2.2.1 (hts _ hlk) hnamed hmethM hstatic hkP hinitP hmh (g := F0 m pc ls ((as.reverse ++ st).map (ag_v G))) rfl (argsL := as.map (ag_v G)) (rest := st.map (ag_v G)) (by rw [List.length_map]; exact ag_lenOf hnp _ hsigM) hstk (by rw [X.2.1]; exact hd)
    obtain ⟨v, ⟨U', l2, c2, s2⟩, X', ⟨g', mk', t, L, e1, e2, hq, k1, hL, k2, k3⟩, hsteps⟩ := hB m meth c ⟨V.setVm vm₁, locs, h.1 - n0, h.2.1 - s0⟩ { F0 m pc ls ((as.reverse ++ st).map (ag_v G)) with stack := st.map (ag_v G) } (.invokestatic ix) mk (as.map (ag_v G)).toArray X₁ rfl (by rw [X.2.2.1]; exact hlv.1) (by rw [X.2.1]; exact hd) (lv_room (m := m) (pc := pc) (ls := ls) (rest := st.map (ag_v G)) (st := st.map (ag_v G)) (by rw [ag_catsum]; exact hw)) (X₁.named hnamed)
      ⟨hf.1, hf.2, rfl, hK.to X₁.warmed (by show va_S (ag_A G) s.heap V.heap locs; rw [hV]; exact hS), by show ag_R P G h V.heap; rw [hV]; exact hr⟩
    dsimp only [Pt.U, Pt.locs, Pt.cells, Pt.slots] at X' e1 e2 k1 k2 k3
    subst k1; subst k2; subst k3
    refine ⟨v, (V.setVm vm₁).calling g' mk' (as.map (ag_v G)).toArray, t, U', L, hV, X', hL, e1, e2, hq, ?_⟩
    exact fun target ht => hstep₁ _ fun acts => by rw [doInvoke_state]; exact hsteps.trans ht
  refine ag_after go hS fun v h' H1 locs1 hq hR hS1 => ?_
  refine ag_tightW h0 h1 hz hR.2.1 hR.2.2.1 ?_
  rw [ag_ovm]
  exact k v h' hq p e s m args below meth c ls H1 locs1 n0 s0 X h0 h1 hlv hR hS1
end AGU
