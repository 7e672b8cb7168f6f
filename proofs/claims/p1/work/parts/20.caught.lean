/-! ### A call whose exception is caught by the caller's own table -/
theorem ag_stepCatch {e : Env} {s : State} {a : Addr} {f : JFrame} {r : List Frame} {pc : Nat} {vm' : Vm}
    (hfind : ∀ (Q : Handler → Pre) (E : CtlPost) (d : Bool) (acts : List Action), wp (findHandler f a) Q E e d acts s ↔ Q (.found pc) d acts (s.setVm vm')) :
    (stepThrowing e s a (.java f :: r)).Is ((s.setVm vm').setFrames (.java { f with pc := pc, stack := [.ref a] } :: r)) [] := by
  simp only [stepThrowing, searchFrame, vmDo]
  generalize hr : Sem.go _ e false [] s = res
  obtain ⟨as, rfl, ha⟩ := Sem.eq_ok_of hr (a := Handler.found pc) (s' := s.setVm vm') (acts' := []) (by simp [hfind _ _ _ _])
  exact ⟨rfl, ha⟩
theorem ag_caught {tb : Tables} {e : Env} {V target : State} {g : JFrame} {c : Code} {below : List Frame} {a : Addr} {pc : Nat} {vm' : Vm} (h : At V g.method c below)
    (hfind : ∀ (Q : Handler → Pre) (E : CtlPost) (d : Bool) (acts : List Action), wp (findHandler g a) Q E e d acts ((V.setTop g).pushFrame (.throwing a)) ↔ Q (.found pc) d acts (((V.setTop g).pushFrame (.throwing a)).setVm vm'))
    (hrest : Steps tb e below ((V.setVm vm').setTop { g with pc := pc, stack := [.ref a] }) target) : Steps tb e below ((V.setTop g).pushFrame (.throwing a)) target := by
  obtain ⟨hgo, hw⟩ := h.throwing a
  refine Steps.head hgo hw ?_
  rw [stepThread_throwing (frames_entered h.top _), (ag_stepCatch (s := (V.setTop g).pushFrame (.throwing a)) hfind).1]
  obtain ⟨g₀, hg⟩ := Option.isSome_iff_exists.mp h.top
  obtain ⟨r, hr⟩ := State.topJava?_eq_some.mp hg
  have hr' : (V.setVm vm').frames = .java g₀ :: r := hr
  rw [State.setTop_of_frames _ hr'] at hrest
  have hx : (((V.setTop g).pushFrame (.throwing a)).setVm vm').setFrames (.java { g with pc := pc, stack := [.ref a] } :: V.frames.tail) = (V.setVm vm').setFrames (.java { g with pc := pc, stack := [.ref a] } :: r) := by
    rw [State.pushFrame, State.setTop_of_frames _ hr, hr]
    rw [State.frames_setFrames _ (State.cur_lt_of_frames hr)]
    show ((V.setFrames _).setFrames _ |>.setVm vm').setFrames _ = _
    rw [State.setFrames_setFrames]
    show ((V.setFrames _).setFrames _).setVm vm' = _
    rw [State.setFrames_setFrames]
    rfl
  rw [hx]
  exact hrest
section AGQ
variable {P : ag_P} {l : Launch} {G : ag_G} {M Y : ag_M} {d : Nat} {Z : ag_Z} {pc : Nat} {lv : ag_L} {st as : List Value} {h : ag_H} {Q : Nat → ag_H → Prop}
set_option maxHeartbeats 1000000 in
theorem ag_callvT {ix a ci : Nat} {q : vw_C} {fs : List Value} (hd : decode M.2.1 pc = .ok (.invokevirtual ix, 3)) (hlk : Cond.methodLink M.1.cls ix Y.1 ∈ P.1) (hl : ag_ml P M.1.cls ix Y as.length) (hin : Cond.instanceMethod Y.1 ∈ P.1) (hc : P.2.1[ci]? = some q) (hse : Cond.selects q.1 Y.1 Y.1 ∈ P.1) (ha : ag_at h (.ref a) = some (.inr (ci, fs)))
    (hw : (st.map fun v => v.category).sum ≤ 8) (hM : ag_MetT P l G Y d (.ref a :: as) h Q)
    (k : ∀ x h', Q x h' → ∃ (ci' : Nat) (fs' : List Value) (q' : vw_C) (hp : Nat), ag_at h' (.ref x) = some (.inr (ci', fs')) ∧ P.2.1[ci']? = some q' ∧ ag_hd P M.1.cls q'.1 pc hp M.2.2.2.2 ∧ ag_ev P l G M (d + 1) Z hp lv [.ref x] h') : ag_ev P l G M (d + 1) Z pc lv (as.reverse ++ .ref a :: st) h := by
  intro p e s m args below meth c ls H locs n0 s0 X h0 h1 hlv hr hS
  obtain ⟨-, g2, g3, g4, g5, g6⟩ := hl
  have hK := X.2.2.2.2.2.2.2
  have hts := hK.hts (args := args)
  have hz := hK.2.2.2.2.1.2
  have hle := hS.1
  refine ag_leW h1 hz hr.2.2.1 fun hs01 => ?_
  have hr2 := hr.2.1
  obtain ⟨⟨hfr, hlo⟩, hf⟩ := ag_rooms (G := G) (d := d) (Y := Y) (h := h) (n0 := n0) (s0 := s0) (by omega) hs01 hr.2.2.2.1 hr.2.2.2.2.1 g6
  have hstk : (F0 m pc ls ((as.reverse ++ .ref a :: st).map (ag_v G))).stack = (as.map (ag_v G)).reverse ++ .ref (ag_ad G a) :: st.map (ag_v G) := by
    show (as.reverse ++ .ref a :: st).map (ag_v G) = _
    rw [List.map_append, List.map_reverse]
    rfl
  obtain ⟨cellB, hcB, hoB, hclB⟩ := ag_recv hK hr hc ha
  intro V hV X0
  obtain ⟨mk, methM, hnamed, hmethM, hstM, habM⟩ := Cond.instanceMethod_spec (hts _ hin)
  obtain ⟨methM', cM, hmethM', -, -, -, -, -, -, hsigM⟩ := Cond.code_spec hnamed (hts _ g3)
  cases hmethM.symm.trans hmethM'
  obtain ⟨c2, r2, m2, q1, q2, q3, q4, kP, hkP, hkPi⟩ := Cond.selects_spec (hts _ hse)
  cases hclB.symm.trans q1
  cases (State.methodFound?_of_named hnamed g4).symm.trans q2
  cases hnamed.symm.trans q3
  have hselP : selectMethod e.platform s.vm cellB.cls mk = .method mk := by rw [Launch.admits_selectMethod X0.admits]; exact q4
  have hlenA : (as.map (ag_v G)).length = methM.sig.parameters.length := by rw [List.length_map]; exact ag_lenOf g5 _ hsigM
  obtain ⟨vm₁, X₁, hstep₁⟩ := X0.invokevirtual X.1 X.2.2.2.2.2.1 (hts _ hlk) hnamed hmethM hstM hkP hkPi g4 (a := ag_ad G a) (cell := cellB) (by rw [hV]; exact hcB)
    (fun z hz' => by rw [hz'] at hoB; cases hoB) hselP hmethM habM hkP hkPi (g := F0 m pc ls ((as.reverse ++ .ref a :: st).map (ag_v G))) rfl (argsL := as.map (ag_v G)) (rest := st.map (ag_v G)) hlenA hstk (by rw [X.2.1]; exact hd)
  have hKU : ag_Kn P G (V.setVm vm₁) := hK.to X₁.warmed (by show va_S (ag_A G) s.heap V.heap locs; rw [hV]; exact hS)
  have hRU : ag_R P G h (V.setVm vm₁).heap := by show ag_R P G h V.heap; rw [hV]; exact hr
  generalize hgg : ({ F0 m pc ls ((as.reverse ++ .ref a :: st).map (ag_v G)) with stack := st.map (ag_v G) } : JFrame) = g' at hstep₁
  have hg' : g'.method = m := by rw [← hgg]
  have hgpc : g'.pc = pc := by rw [← hgg]
  have hsize : g'.locals.size = c.maxLocals := by rw [← hgg, X.2.2.1]; exact hlv.1
  have hwt : 2 * g'.monitorRoom + (g'.stack.map fun v => v.category).sum ≤ 8 := by
    rw [← hgg]
    exact lv_room (m := m) (pc := pc) (ls := ls) (rest := st.map (ag_v G)) (st := st.map (ag_v G)) (by rw [ag_catsum]; exact hw)
  have hdg : decode c.code g'.pc = .ok (.invokevirtual ix, 3) := by rw [hgpc, X.2.1]; exact hd
  have hnU := X₁.named hnamed
  obtain ⟨methY, cY, hmY, hcY, -, hlY, -, -, -, -⟩ := Cond.code_spec hnU (hKU.hts (args := (Value.ref (ag_ad G a) :: as.map (ag_v G)).toArray) _ g3)
  obtain ⟨kY, hkY, -⟩ := className_of_methodNamed hnU
  have hinitY : kY.init = .initialized := Cond.initialized_spec (findClass_of_methodNamed hnU) hkY (hKU.hts (args := #[]) _ g2)
  have hAt : At (V.setVm vm₁) g'.method c below := by rw [hg']; exact X₁.here
  have happ : (headSpec [Cond.code Y.1 Y.2.1 Y.2.2.1 Y.2.2.2.1] (ag_rm G d h.1 h.2.1)).appliesLoose Y.1 e.platform ((V.setVm vm₁).calling g' mk (Value.ref (ag_ad G a) :: as.map (ag_v G)).toArray) = true :=
    Spec.appliesLoose_calling (g := g') hAt hdg hnU hkY hinitY
      (X₁.room_calling (g := g') (R' := ag_rm G d h.1 h.2.1) hsize hmY hcY hfr (by rw [hlY]; omega) hf.1 hf.2) (atoms_intro fun w hw' => by rw [List.mem_singleton.mp hw']; exact hKU.hts _ g3)
  obtain ⟨mid, hmid⟩ := hAt.above
  have hfrm : ((V.setVm vm₁).setTop g').frames = (.java g' :: mid) ++ below := by rw [State.frames_setTop' g' hAt.top, hmid]; rfl
  obtain ⟨o, s₂, hsteps, -, hend, hq⟩ := Steps.callFree hM p X₁.admits X₁.cas X₁.clock (acts := []) (m := mk) (args := (Value.ref (ag_ad G a) :: as.map (ag_v G)).toArray) hfrm happ
    ⟨rfl, hKU.to (U := (V.setVm vm₁).calling g' mk (Value.ref (ag_ad G a) :: as.map (ag_v G)).toArray) (locs := []) (State.WarmedH.refl _) va_S.rf, hRU⟩ trivial
  obtain ⟨⟨x, h', rfl, hQ, hR', hF⟩, L, ⟨hW2, hsame2⟩, hL⟩ := hq
  rw [State.frames_setTop' g' hAt.top, X₁.tail] at hend
  obtain ⟨T', X', hWT, hsameT, ht⟩ := X₁.outOfThrown (g := g') hg' hend hW2 hsame2
  have hheap : T'.heap = s₂.heap := by rw [ht, Stand.throwing_heap]
  obtain ⟨ci', fs', q', hp, k1, k2, k3, k4⟩ := k x h' hQ
  have hRT : ag_R P G h' T'.heap := by rw [hheap]; exact hR'
  obtain ⟨cellE, hcE, hoE, hclE⟩ := ag_recv hK hRT k2 k1
  have hpl : e.platform.magicAccessors = ({} : Platform).magicAccessors := by rw [X0.admits.platform]
  have hWs : s.WarmedH s₂.vm := by rw [ht, Stand.throwing_vm]; exact X'.warmed
  obtain ⟨vm', hW', hgo⟩ := ag_go (f := g') (a := ag_ad G x) (e := e) (hp := hp) hK hpl (by rw [hg']; exact X.2.2.2.2.2.1) hclE (VmData.ne_statics_of hoE) c.exceptionTable.toList (by rw [X.2.2.2.2.1.2.1, hgpc]; exact k3) s₂ hWs (by rw [← hheap]; exact hcE)
  have hm2 : s₂.vm.method? g'.method = some meth := by rw [hWs.alike.method?, hg']; exact X0.method
  have hfind : ∀ (Q : Handler → Pre) (E : CtlPost) (d : Bool) (acts : List Action), wp (findHandler g' (ag_ad G x)) Q E e d acts ((T'.setTop g').pushFrame (.throwing (ag_ad G x))) ↔ Q (.found hp) d acts (((T'.setTop g').pushFrame (.throwing (ag_ad G x))).setVm vm') := by
    intro Q E d acts
    rw [← ht, W.findHandler_eq hm2 X0.code]
    exact hgo Q E d acts
  have hS' : va_S (ag_A G) s.heap T'.heap (locs ++ L) := by
    obtain ⟨hF1, hF2⟩ := hF
    have hF1' : V.heap.size ≤ s₂.heap.size := hF1
    have hF2' : ∀ q : Nat, q < V.heap.size → ¬ ag_A G q → s₂.heap[q]? = V.heap[q]? := hF2
    rw [hV] at hF1' hF2'
    refine ⟨by rw [hheap]; exact Nat.le_trans hle hF1', fun q hq hA => ?_, fun q hq => ?_⟩
    · rw [hheap, hF2' q (Nat.lt_of_lt_of_le hq hle) hA]
      exact hS.2.1 q hq hA
    · rcases List.mem_append.mp hq with hq | hq
      · exact hS.2.2 q hq
      · exact hL q hq
  have X'' := X'.noted hW'
  have hfin := k4 p e s m args below meth c ls T'.heap (locs ++ L) n0 s0 X h0 h1 hlv hRT hS' (T'.setVm vm') rfl (ag_tight X'' h0 h1 hz (by show T'.heap.size + 2 = _; exact hRT.2.1) (by show ag_sum _ T'.heap = _; exact hRT.2.2.1))
  obtain ⟨tg, st1, hZ⟩ := hfin
  refine ⟨tg, hstep₁ _ (fun acts => ?_), hZ⟩
  rw [doInvoke_state]
  refine hsteps.trans ?_
  rw [ht]
  refine ag_caught (by rw [hg']; exact X'.here) hfind ?_
  have hgf : ({ g' with pc := hp, stack := [.ref (ag_ad G x)] } : JFrame) = F0 m hp ls ([Value.ref x].map (ag_v G)) := by rw [← hgg]; rfl
  rw [hgf]
  exact st1
end AGQ
