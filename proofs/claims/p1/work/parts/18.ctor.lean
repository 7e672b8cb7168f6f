/-! ### A new exception's constructor (no stack traces), and the throw -/
/-- the words of 'new X()' for an exception X that are of the tables alone -/
def ag_xw (own : String) (ic : Nat) (X : String) (names : List String) : List Cond := (Bundle.ownAtoms0 own ic X names).filter (fun w => match w with
  | .laysStatic _ _ _ => false
  | .isRef _ => false
  | _ => true)
theorem ag_zref {C n d : String} {A : Nat → Prop} {U : State} {H : Heap} (h : va_Zq C n d A U H) : ∃ u : RefV, va_Z C n d u.v A U H := by
  rcases h with h | ⟨t, h⟩
  · exact ⟨⟨.null, rfl⟩, h⟩
  · exact ⟨⟨.ref t, rfl⟩, h⟩
section AGY
variable {p : Program} {l : Launch} {e : Env} {R : Room} {s : State} {m₀ : MethodId} {args : Array Value} {below : List Frame} {meth : Method} {c : Code} {V : State} {locs : List Loc} {cells slots : Nat}
set_option maxHeartbeats 2000000 in
theorem ag_ctor0 (X : Stand p l e R s m₀ args below meth c V locs cells slots) (hexec : p.tables.exec = Jvm.exec) (htr : e.platform.stackTraces = false) {own cls : String} {names : List String} {ic : Nat} {A : Nat → Prop}
    (hown : s.vm.findClass own = some m₀.cls) (hcls : Bundle.fit cls = true) (hnames : ∀ n ∈ names, Bundle.fit n = true) (h : ∀ w ∈ ag_xw own ic cls names, w.before args s = true)
    (hz1 : ag_ls "java/lang/Throwable" "UNASSIGNED_STACK" "[Ljava/lang/StackTraceElement;" A s) (hz2 : ag_ls "java/lang/Throwable" "SUPPRESSED_SENTINEL" "Ljava/util/List;" A s) (hk : ∀ q : Nat, q < s.heap.size → ¬ A q → V.heap[q]? = s.heap[q]?)
    {a : Addr} {cX : ClassId} {kX : Class} (hfoundX : s.vm.findClass cls = some cX) (hkX : s.vm.classes[cX]? = some kX) (hcell : V.heap[a]? = some (freshCell cX kX)) (hA : A a)
    {g : JFrame} (hg : g.method = m₀) (hsize : g.locals.size = c.maxLocals) {rest : List Value} (hstack : g.stack = .ref a :: .ref a :: rest) (hd6 : decode c.code g.pc = .ok (.invokespecial ic, 3))
    (hRframes : names.length + 3 < R.frames) (hRlocals : 2 * g.monitorRoom + ((Value.ref a :: rest).map fun v => v.category).sum + (13 * (names.length + 1) + 41) ≤ R.locals) :
    ∃ (vm' : Vm) (ce : Cell) (L : List Loc), Stand p l e R s m₀ args below meth c ((V.setVm vm').setCell a ce) (locs ++ L) cells slots ∧ (∀ q ∈ L, q.base = a) ∧ ce.cls = cX ∧ ce.vm = .none ∧ ce.slots.size = kX.instanceTypes.size ∧
      ∀ target, Steps p.tables e below (((V.setVm vm').setCell a ce).setTop { g with pc := g.pc + 3, stack := .ref a :: rest }) target → Steps p.tables e below (V.setTop g) target := by
  have howns : e.platform.frameOwnsMonitors = true := by rw [X.admits.platform]
  have hfin : e.platform.finalization = false := by rw [X.admits.platform]
  have hpl : e.platform.magicAccessors = ({} : Platform).magicAccessors := by rw [X.admits.platform]
  have ls1 : (Cond.laysStatic Bundle.tN "UNASSIGNED_STACK" Bundle.steD).before args s = true := by
    obtain ⟨c, k, i, f, a, cell, hc, hi, hst, ha, hcell, hs, hcls, hlt, hty⟩ := Cond.laysStatic_spec hz1.1
    exact Cond.laysStatic_of hc hi hst ha hcell hs hcls hlt hty
  have ls2 : (Cond.laysStatic Bundle.tN "SUPPRESSED_SENTINEL" Bundle.listD).before args s = true := by
    obtain ⟨c, k, i, f, a, cell, hc, hi, hst, ha, hcell, hs, hcls, hlt, hty⟩ := Cond.laysStatic_spec hz2.1
    exact Cond.laysStatic_of hc hi hst ha hcell hs hcls hlt hty
  have at_ : ∀ x, x ∈ ag_xw own ic cls names → x.holds args s none s [] = true := fun x hx => h x hx
  obtain ⟨T, Z, L, LZ, Y⟩ := ThrowableC.of_atoms (args := args) (s := s) howns hfin hpl (by
    intro x hx
    simp only [Bundle.throwableAtoms, List.mem_cons, List.not_mem_nil, or_false] at hx
    rcases hx with rfl | rfl | rfl | rfl | rfl | rfl | rfl | rfl | rfl | rfl | rfl | rfl | rfl | rfl | rfl | rfl | rfl | rfl | rfl | rfl | rfl | rfl | rfl | rfl
    all_goals first
      | exact ls1
      | exact ls2
      | exact h _ (by simp [ag_xw, Bundle.ownAtoms0, Bundle.throwableAtoms]))
  obtain ⟨P1, Ps, hlen, L1, hL, hP1m, hlink1, hlink⟩ := Bundle.chain0 (args := args) hpl Y.init0 names cls hcls hnames (by
    intro x hx
    refine h x (List.mem_filter.mpr ⟨by simp [Bundle.ownAtoms0, hx], ?_⟩)
    have : ∀ (ns : List String) (Xn : String) (w : Cond), w ∈ Bundle.chain0Atoms Xn ns → (match w with
      | .laysStatic _ _ _ => false
      | .isRef _ => false
      | _ => true) = true := by
      intro ns
      induction ns with
      | nil =>
        intro Xn w hw
        simp only [Bundle.chain0Atoms, Bundle.passAtoms, List.mem_cons, List.not_mem_nil, or_false] at hw
        rcases hw with rfl | rfl | rfl | rfl | rfl <;> rfl
      | cons n ns ih =>
        intro Xn w hw
        simp only [Bundle.chain0Atoms, Bundle.passAtoms, List.mem_append, List.mem_cons, List.not_mem_nil, or_false] at hw
        rcases hw with (rfl | rfl | rfl | rfl | rfl) | hw
        all_goals first
          | rfl
          | exact ih _ _ hw
    exact this names cls x hx)
  have hfound : s.vm.findClass cls = some P1.m.cls := findClass_of_methodNamed hP1m
  cases Option.some.inj (hfoundX.symm.trans hfound)
  obtain ⟨c1, kX', hc1, hk', hord, -, -, hn6⟩ := Cond.instantiable_spec (at_ (.instantiable cls 6) (by simp [ag_xw, Bundle.ownAtoms0]))
  cases Option.some.inj (hc1.symm.trans hfound)
  cases Option.some.inj (hkX.symm.trans hk')
  have sel : ∀ (y : MethodName) (mm : MethodId), s.methodNamed? y = some mm → (y.cls ≠ "java/lang/invoke/MethodHandle" ∧ y.cls ≠ "java/lang/invoke/VarHandle") → (Cond.selects cls y y).holds args s none s [] = true → selectMethod e.platform s.vm P1.m.cls mm = .method mm := by
    intro y mm hy hmh hs
    obtain ⟨c2, r2, m2, q1, q2, q3, q4, -⟩ := Cond.selects_spec hs
    cases Option.some.inj (q1.symm.trans hfound)
    cases Option.some.inj (q2.symm.trans (State.methodFound?_of_named hy hmh))
    cases Option.some.inj (q3.symm.trans hy)
    rw [Launch.admits_selectMethod X.admits]
    exact q4
  have hsel0 := sel _ _ Y.fill0 (by decide) (at_ (.selects cls Bundle.tFill0 Bundle.tFill0) (by simp [ag_xw, Bundle.ownAtoms0]))
  have hselF := sel _ _ Y.fill (by decide) (at_ (.selects cls Bundle.tFill Bundle.tFill) (by simp [ag_xw, Bundle.ownAtoms0]))
  obtain ⟨u0, cf1, kf1, fi1, f1, a1, cellS, w1, w2, w3, w4, w5, w6, w7, w8⟩ := ag_zref (hz1.2.kept hk)
  obtain ⟨sen, cf2, kf2, fi2, f2, a2, cellS2, v1, v2, v3, v4, v5, v6, v7, v8⟩ := ag_zref (hz2.2.kept hk)
  cases Y.unassigned.symm.trans w1
  cases Y.sentinel.symm.trans v1
  cases L.statics.symm.trans w4
  cases L.statics.symm.trans v4
  cases w5.symm.trans v5
  obtain ⟨ci198, i198, fB, hk198, hg198, ha198, hsB, -, hnB, htB, hffB⟩ := Cond.ownField (t := .object "java/lang/Object") Y.found L.cls (by decide +kernel) (at_ (.fieldLink Bundle.tN 198 Bundle.tN "backtrace" "Ljava/lang/Object;") (by simp [ag_xw, Bundle.ownAtoms0])) (at_ (.lays Bundle.tN Bundle.tN "backtrace" "Ljava/lang/Object;") (by simp [ag_xw, Bundle.ownAtoms0])) e.platform hpl
  have hknownS : cellS.vm ≠ .unknown := by
    intro hu
    rw [hu] at w6
    cases w6
  have hneS : T.aS ≠ a := fun q => w8 (by rw [q]; exact hA)
  obtain ⟨tyC, dC, hdC, hdnC⟩ := Cond.laysAt hfound hk' Y.cause (at_ (.lays cls Bundle.tN "cause" "Ljava/lang/Throwable;") (by simp [ag_xw, Bundle.ownAtoms0]))
  obtain ⟨tyS, dS, hdS, hdnS⟩ := Cond.laysAt hfound hk' Y.stack (at_ (.lays cls Bundle.tN "stackTrace" Bundle.steD) (by simp [ag_xw, Bundle.ownAtoms0]))
  obtain ⟨tyP, dP, hdP, hdnP⟩ := Cond.laysAt hfound hk' Y.supp (at_ (.lays cls Bundle.tN "suppressedExceptions" Bundle.listD) (by simp [ag_xw, Bundle.ownAtoms0]))
  obtain ⟨tyB, dB, hdB, hdnB⟩ := Cond.laysAt hfound hk' hffB (at_ (.lays cls Bundle.tN "backtrace" "Ljava/lang/Object;") (by simp [ag_xw, Bundle.ownAtoms0]))
  have bC := Cond.laysApart hdB hdC hdnB hdnC (by rw [hnB, Y.causeName]; decide)
  have bS := Cond.laysApart hdB hdS hdnB hdnS (by rw [hnB, Y.stackName]; decide)
  have bP := Cond.laysApart hdB hdP hdnB hdnP (by rw [hnB, Y.suppName]; decide)
  have hskip : SkipFacts T e.platform s (fun u => u) u0 ((preparedCellV T.toThrowableT (freshCell P1.m.cls kX) a u0 sen).withEntry V.cur) :=
    ⟨{ ci198 := ci198, i198 := i198, fBack := fB }, ⟨hk198, hg198, ha198, hsB⟩, by
      have := fresh_default (c := P1.m.cls) tyB
      rw [htB] at this
      simpa [preparedCellV, Cell.setSlot, Cell.withEntry, Array.getElem?_setIfInBounds, bC, bS, bP, bC.symm, bS.symm, bP.symm, defaultValue] using this, fun _ _ => rfl⟩
  obtain ⟨tm, methC, cdC, kC, vm₁, hnC, -, -, -, -, -, -, -, hW₁, st1⟩ := Steps.initCold (tb := p.tables) (e := e) (below := below) (s := s) (U := V) X.here hexec X.warmed hpl hown (t := Bundle.init0 cls) rfl rfl (Bundle.fit_spec hcls).2
    (at_ (.methodLink own ic (Bundle.init0 cls)) (by simp [ag_xw, Bundle.ownAtoms0])) (at_ (.instanceMethod (Bundle.init0 cls)) (by cases names <;> simp [ag_xw, Bundle.ownAtoms0, Bundle.chain0Atoms, Bundle.passAtoms])) (bytes := Bundle.five) (maxL := 1) (at_ (.code (Bundle.init0 cls) Bundle.five 1 none) (by cases names <;> simp [ag_xw, Bundle.ownAtoms0, Bundle.chain0Atoms, Bundle.passAtoms]))
    (f := g) hg (a := a) (rest := .ref a :: rest) hstack hd6
  cases Option.some.inj (hnC.symm.trans hP1m)
  have X₁ := X.noted hW₁
  obtain ⟨vm₂, X₂, st2⟩ := X₁.ctorPlainOffV hexec (g := { g with stack := .ref a :: rest }) hg hsize T L Z LZ (P1 :: Ps)
    (fun P hP => by rcases List.mem_cons.mp hP with rfl | hP; exact L1; exact hL P hP) ⟨hlink1, hlink⟩ (u0 := u0) (sen := sen) (self := a) (cell := freshCell P1.m.cls kX) (cellS := cellS)
    hcell (fun _ => by simp) (by simp) rfl rfl hsel0 hselF w5 hneS hknownS w7 v7
    (Takes.of_laid hk' hord tyC (by rw [Y.causeType]; rfl)) (Takes.of_laid hk' hord tyS (by rw [Y.stackType]; exact fits_refV_array _ u0)) (Takes.of_laid hk' hord tyP (by rw [Y.suppType]; exact fits_refV_object _ sen)) Y.objLocals hskip htr [] hd6
    (by simp only [List.length_cons, hlen]; omega) (by simp only [List.length_cons, hlen]; exact hRlocals)
  refine ⟨vm₂, _, _, X₂, ?_, rfl, rfl, by simp [preparedCellV, Cell.setSlot], fun target ht => st1 _ (fun acts => ?_)⟩
  · intro q hq
    simp only [List.mem_cons, List.not_mem_nil, or_false] at hq
    rcases hq with rfl | rfl | rfl | rfl <;> rfl
  · rw [doInvoke_state]
    exact st2 _ ht
end AGY
