/-! ### 'throw new X()', and a call whose exception is caught -/
section AGJ
variable {P : ag_P} {l : Launch} {G : ag_G} {M Y : ag_M} {d : Nat} {pc : Nat} {lv : ag_L} {st as : List Value} {h : ag_H} {Q : Nat → ag_H → Prop}
set_option maxHeartbeats 1000000 in
theorem ag_throw {ix ic ci : Nat} {C : String} {T : u_T} {names : List String} (hd0 : decode M.2.1 pc = .ok (.new ix, 3)) (hd3 : decode M.2.1 (pc + 3) = .ok (.dup, 1)) (hd4 : decode M.2.1 (pc + 4) = .ok (.invokespecial ic, 3)) (hd7 : decode M.2.1 (pc + 7) = .ok (.athrow, 1))
    (hh : M.2.2.2.2 = []) (hw : Cond.classLink M.1.cls ix C ∈ P.1) (hi : Cond.instantiable C 6 ∈ P.1) (hn : Cond.initialized C ∈ P.1) (hc : P.2.1[ci]? = some (C, T, 0)) (hfit : Bundle.fit C = true) (hnames : ∀ n ∈ names, Bundle.fit n = true) (hxw : ∀ w ∈ ag_xw M.1.cls ic C names, w ∈ P.1) (hlen : names.length ≤ 3)
    (htr : ∀ e : Env, l.admits e → e.platform.stackTraces = false) (hst : (st.map fun v => v.category).sum ≤ 8) (hb1 : h.1 + 1 ≤ ag_cN G) (hb2 : h.2.1 + 6 ≤ ag_cS G) (q : Q h.1 (ag_nw h 6 (.inr (ci, [])))) : ag_ev P l G M d (ag_thr P G Q) pc lv st h := by
  intro p e s m args below meth c ls H locs n0 s0 X h0 h1 hl hr hS
  have hK := X.2.2.2.2.2.2.2
  have hts := hK.hts (args := args)
  have hKn := hK.1.1 ci _ hc
  have hz := hK.2.2.2.2.1.2
  have hle := hS.1
  refine ag_leW h1 hz hr.2.2.1 fun hs01 => ?_
  have hr2 := hr.2.1
  refine W.newcK X.1 X.2.1 X.2.2.2.2.2.1 (hts _ hw) (hts _ hi) (hts _ hn) rfl hd0 (show h.1 - n0 + 1 ≤ ag_cN G - n0 by omega) (show h.2.1 - s0 + 6 ≤ ag_cS G - s0 by omega) hKn.2.1 rfl fun H1 kC hkC e1 z1 o1 => ?_
  obtain ⟨c1, k1, hc1, hk1, -, -, -, hsz⟩ := Cond.instantiable_spec (hts _ hi)
  cases hKn.2.1.symm.trans hc1
  cases hkC.symm.trans hk1
  refine lv_dup X.1 X.2.1 hd3 rfl ?_
  intro V hV X0
  have hsize : (F0 m (pc + 4) ls (.ref H.size :: .ref H.size :: st.map (ag_v G))).locals.size = c.maxLocals := by rw [X.2.2.1]; exact hl.1
  have hkeep : ∀ q : Nat, q < s.heap.size → ¬ ag_A G q → V.heap[q]? = s.heap[q]? := fun q hq hA => by rw [hV, o1 q (Nat.lt_of_lt_of_le hq hle)]; exact hS.2.1 q hq hA
  have hAa : ag_A G H.size := by show ag_sz G ≤ H.size; omega
  obtain ⟨vm', ce, L, X2, hL, w1, w2, w3, hst2⟩ := ag_ctor0 (g := F0 m (pc + 4) ls (.ref H.size :: .ref H.size :: st.map (ag_v G))) (a := H.size) (rest := st.map (ag_v G)) (A := ag_A G) X0 X.1 (htr e X0.admits) X.2.2.2.2.2.1 hfit hnames (fun w hw' => hts w (hxw w hw')) hK.2.2.2.2.2.2.2.1 hK.2.2.2.2.2.2.2.2 hkeep hKn.2.1 hkC (by rw [hV]; exact e1) hAa rfl hsize rfl (by rw [X.2.1]; exact hd4)
    (show names.length + 3 < d + 8 by omega) (by
      show 2 * 0 + ((Value.ref H.size :: st.map (ag_v G)).map fun v => v.category).sum + (13 * (names.length + 1) + 41) ≤ 60 * d + 200
      rw [List.map_cons, List.sum_cons, ag_catsum]
      show 2 * 0 + (1 + _) + _ ≤ _
      omega)
  have hout : ∀ x ∈ c.exceptionTable.toList, covers x (pc + 7) = false := by
    have ht := X.2.2.2.2.1.2.1
    rw [hh] at ht
    rw [List.map_eq_nil_iff.mp ht]
    intro x hx
    cases hx
  obtain ⟨a1, a2, a3, a4, a5⟩ := X2.athrowLeaves X.1 (g := F0 m (pc + 7) ls (.ref H.size :: st.map (ag_v G))) rfl rfl rfl hout (a := H.size) (rest := st.map (ag_v G)) rfl (by rw [X.2.1]; exact hd7) X.2.2.2.2.1.1
  generalize hH2 : H1.setIfInBounds H.size ce = H2
  have hheap : (((V.setVm vm').setCell H.size ce).setFrames (.throwing H.size :: below)).heap = H2 := by rw [← hH2, ← hV]; rfl
  have z2 : H2.size = H.size + 1 := by rw [← hH2]; simpa using z1
  have e2 : H2[H.size]? = some ce := by rw [← hH2]; simp [Array.getElem?_setIfInBounds, z1]
  have o2 : ∀ q : Nat, q < H.size → H2[q]? = H[q]? := fun q hq => by
    rw [← hH2, Array.getElem?_setIfInBounds_ne (by omega)]
    exact o1 q hq
  have hob : va_at (ag_D G) P.2.1 (H.size, ag_e G (.inr (ci, []))) H2 := ⟨_, hc, ce, e2, w1, w2, fun k hk => absurd hk (Nat.not_lt_zero _)⟩
  have hr1 := hr.push e2 z2 o2 (w3.trans hsz) hb1 hb2 hob
  refine ⟨_, hst2 _ a1, .threw H.size, a2, a3, ⟨h.1, _, by rw [hr.addr], q, by rw [hheap]; exact hr1, (ag_S_push hS z2 o2).F hheap⟩, _, ⟨a4, a5.mono (show h.1 - n0 + 1 ≤ ag_cN G - n0 by omega) (show h.2.1 - s0 + 6 ≤ ag_cS G - s0 by omega)⟩, ?_⟩
  intro x hx
  rcases List.mem_append.mp hx with hx | hx
  · exact hS.2.2 x hx
  · rw [hL x hx]; exact hAa
end AGJ
/-- the table's first row that takes an exception of the class C: rows whose class it isn't are passed -/
def ag_hd (P : ag_P) (own : String) (C : String) (pc hp : Nat) : List (Nat × Nat × Nat × Nat) → Prop
  | [] => False
  | (a, b, t, ct) :: r => if a ≤ pc ∧ pc < b then ct ≠ 0 ∧ ∃ X : String, Cond.classLink own ct X ∈ P.1 ∧ ((Cond.castable C X ∈ P.1 ∧ t = hp) ∨ (Cond.not (.castable C X) ∈ P.1 ∧ ag_hd P own C pc hp r)) else ag_hd P own C pc hp r
section AGL
variable {P : ag_P} {G : ag_G} {s : State} {e : Env} {f : JFrame} {a : Addr} {l : Launch}
theorem ag_go {own C : String} {hp : Nat} {cell : Cell} (hK : ag_Kn P G s) (hpl : e.platform.magicAccessors = ({} : Platform).magicAccessors) (hown : s.vm.findClass own = some f.method.cls) (hC : s.vm.findClass C = some cell.cls) (hobj : ∀ k, cell.vm ≠ .statics k) :
    ∀ (es : List ExceptionTableEntry), ag_hd P own C f.pc hp (es.map (fun x => (x.startPc, x.endPc, x.handlerPc, x.catchType))) → ∀ S : State, s.WarmedH S.vm → S.heap[a]? = some cell →
      ∃ vm' : Vm, s.WarmedH vm' ∧ ∀ (Q : Handler → Pre) (E : CtlPost) (d : Bool) (acts : List Action), wp (findHandler.go f a es) Q E e d acts S ↔ Q (.found hp) d acts (S.setVm vm')
  | [], hh, _, _, _ => by cases hh
  | x :: r, hh, S, hW, hcell => by
    unfold List.map ag_hd at hh
    by_cases hcov : x.startPc ≤ f.pc ∧ f.pc < x.endPc
    · rw [if_pos hcov] at hh
      obtain ⟨h0, X, hl, hh⟩ := hh
      have hx : covers x f.pc = true := by simp [covers, hcov]
      obtain ⟨cT, hcT, hcl⟩ := Cond.classLink_spec hown (hK.hts (args := #[]) _ hl) e.platform hpl
      obtain ⟨dk, _, _, kt, hdk, _, _, _, _, hkt, _, hopen⟩ := hcl.here
      have hcl₀ := hW.classLinks hcl
      have hW' : s.WarmedH (S.vm.noted f.method.cls x.catchType (.cls cT)) := hW.noted hdk hopen (State.rightAt_cls hcl)
      have hg := resolveClass_links e.toSetting hcl₀
      obtain ⟨kc, hkc⟩ := Vm.classAt_of_findClass hC
      obtain ⟨kc', hkc', -⟩ := hW'.alike.2.2 _ _ hkc
      obtain ⟨kt', hkt', -⟩ := hW'.alike.2.2 _ _ hkt
      have hsz : (S.vm.noted f.method.cls x.catchType (.cls cT)).classes.size ≤ S.vm.classes.size := by simp
      have h0' : (x.catchType == 0) = false := by simp [h0]
      obtain ⟨ha, ht⟩ := hg.op (op := VmOp.resolveClass f.method.cls x.catchType) rfl
      have hasg : (S.vm.noted f.method.cls x.catchType (.cls cT)).assignable cell.cls cT = s.vm.assignable cell.cls cT := by rw [hW'.alike.assignable]
      rcases hh with ⟨hy, rfl⟩ | ⟨hy, hh⟩
      · obtain ⟨c3, c4, g3, g4, g5⟩ := Cond.castable_spec (hK.hts (args := #[]) _ hy)
        cases hC.symm.trans g3
        cases hcT.symm.trans g4
        refine ⟨_, hW', fun Q E d acts => ?_⟩
        simp [findHandler.go, hcov, h0, ha, ht, hsz, hcell, hobj, hkc', hkt', hasg, g5, VmOp.dirties, VmOp.acts]
      · obtain ⟨c3, c4, g3, g4, g5⟩ := va_Nc.of (hK.hts (args := #[]) _ hy)
        cases hC.symm.trans g3
        cases hcT.symm.trans g4
        obtain ⟨vm', w1, w2⟩ := ag_go hK hpl hown hC hobj r hh (S.setVm (S.vm.noted f.method.cls x.catchType (.cls cT))) hW' hcell
        refine ⟨vm', w1, fun Q E d acts => ?_⟩
        have w3 := w2 Q E d acts
        rw [← State.setVm_setVm] 
        rw [← w3]
        simp [findHandler.go, hcov, h0, ha, ht, hsz, hcell, hobj, hkc', hkt', hasg, g5, VmOp.dirties, VmOp.acts]
    · rw [if_neg hcov] at hh
      have hx : covers x f.pc = false := by
        cases hb : covers x f.pc with
        | false => rfl
        | true =>
          simp only [covers, Bool.and_eq_true, decide_eq_true_eq] at hb
          exact absurd hb hcov
      obtain ⟨vm', g1, g2⟩ := ag_go hK hpl hown hC hobj r hh S hW hcell
      exact ⟨vm', g1, fun Q E d acts => by rw [W.findHandler_go_skip hx]; exact g2 Q E d acts⟩
end AGL
