/-! ### Throws -/
def ag_Qt (P : ag_P) (G : ag_G) (Q : Nat → ag_H → Prop) : Array Value → State → Outcome → State → Prop := fun _ st oc t =>
  ∃ (x : Nat) (h' : ag_H), oc = .threw (ag_ad G x) ∧ Q x h' ∧ ag_R P G h' t.heap ∧ va_F (ag_A G) st t
def ag_FE (first t : State) (L : List Loc) (k n : Nat) : Prop := first.WarmedH t.vm ∧ first.sameButNew ({ t with vm := first.vm } : State) L k n
def ag_thr (P : ag_P) (G : ag_G) (Q : Nat → ag_H → Prop) : ag_Z := fun R below args s t => ∃ o, t.status = .running ∧ Ended t below o ∧ ag_Qt P G Q args s o t ∧ ∃ L, ag_FE s t L R.cells R.slots ∧ ∀ q ∈ L, ag_A G q.base
def ag_MetT (P : ag_P) (l : Launch) (G : ag_G) (M : ag_M) (d : Nat) (as : List Value) (h : ag_H) (Q : Nat → ag_H → Prop) : Prop :=
  MetFree l M.1 (headSpec [Cond.code M.1 M.2.1 M.2.2.1 M.2.2.2.1] (ag_rm G d h.1 h.2.1)) (ag_Pc P G as h) (fun _ _ _ _ _ => True) (fun a st o t => ag_Qt P G Q a st o t ∧ ∃ L, ag_FE st t L (ag_cN G - h.1) (ag_cS G - h.2.1) ∧ ∀ q ∈ L, ag_A G q.base)
section AGE
variable {P : ag_P} {l : Launch} {G : ag_G} {M Y : ag_M} {d : Nat} {pc : Nat} {lv : ag_L} {st as : List Value} {h : ag_H} {Q : Nat → ag_H → Prop}
theorem ag_metT (hy : plainName M.1.cls = true) (hh : M.2.2.2.2 = []) (hn : (lg_sl as).length ≤ M.2.2.1) (k : ag_ev P l G M d (ag_thr P G Q) 0 (lv_args 0 as) [] h) : ag_MetT P l G M d as h Q := by
  refine MetFree.of_bodyS (code := M.2.1) (maxLocals := M.2.2.1) (ret := M.2.2.2.1) hy ?_ ?_
  · intro args s m hp hn'
    obtain ⟨meth, c, g1, g2, g3, g4, g5, g6, -, -⟩ := Cond.code_spec hn' (atoms_spec (ws := [Cond.code M.1 M.2.1 M.2.2.1 M.2.2.2.1]) hp _ (List.mem_singleton.mpr rfl))
    exact ⟨meth, c, g1, g2, g3, g4, g5, g6⟩
  · intro p e s m args below meth c s₁ B hml hv _
    obtain ⟨rfl, hK, hR⟩ := hv
    have htab : c.exceptionTable.toList.map (fun x => (x.startPc, x.endPc, x.handlerPc, x.catchType)) = M.2.2.2.2 := by
      have hno := B.noHandlers (atoms_spec (ws := [Cond.code M.1 M.2.1 M.2.2.1 M.2.2.2.1]) B.pre _ (List.mem_singleton.mpr rfl))
      rw [hh, Array.isEmpty_iff.mp hno]
      rfl
    have X : ag_X P G M p s m meth c := ⟨B.exec, B.bytes, hml, B.returns, ⟨B.notSynchronized, htab, hR.ns⟩, findClass_of_methodNamed B.named, (name_of_methodNamed B.named B.method).1, hK⟩
    have hl := lv_entry (as.map (ag_v G)) (n := M.2.2.1) (by rw [ag_slen]; exact hn)
    have hk : ∀ ls : Array Slot, lv_has ls M.2.2.1 (ag_lm G (lv_args 0 as)) → _ := fun ls hl => k p e s m (as.map (ag_v G)).toArray below meth c ls s.heap [] h.1 h.2.1 X hR.2.1 hR.2.2.1 hl hR va_S.rf
    rw [← ag_largs] at hk
    have hk := hk _ hl
    rw [Nat.sub_self, Nat.sub_self] at hk
    have hh0 : s₁.heap = s.heap := by rw [B.state]; rfl
    obtain ⟨t, a1, o, b1, b2, b3, b4⟩ := hk s₁ hh0 (Stand.of_body B)
    refine ⟨t, o, ?_, b1, b2, b3, b4⟩
    rw [lg_entry_eq]
    exact a1
end AGE
