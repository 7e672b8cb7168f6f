/-! ### The judgement: from this point of a method's walk over the pure heap h the machine comes to an end that Z names -/
def ag_X (P : ag_P) (G : ag_G) (M : ag_M) (p : Program) (s : State) (m : MethodId) (meth : Method) (c : Code) : Prop :=
  p.tables.exec = Jvm.exec ∧ c.code = M.2.1 ∧ c.maxLocals = M.2.2.1 ∧ meth.sig.returnType = M.2.2.2.1 ∧ (meth.locks = false ∧ c.exceptionTable.toList.map (fun x => (x.startPc, x.endPc, x.handlerPc, x.catchType)) = M.2.2.2.2 ∧ ∀ (q : Nat) (cell : Cell), ag_sz G ≤ q → s.heap[q]? = some cell → cell.vm.isStatics = false) ∧ s.vm.findClass M.1.cls = some m.cls ∧ meth.name = M.1.name ∧ ag_Kn P G s
/-- the room of a method that may be d calls deep, begun when n0 cells of s0 slots were made -/
def ag_rm (G : ag_G) (d n0 s0 : Nat) : Room := { frames := d + 8, cells := ag_cN G - n0, slots := ag_cS G - s0, locals := 60 * d + 200 }
abbrev ag_Z : Type := Room → List Frame → Array Value → State → State → Prop
abbrev ag_lm (G : ag_G) (lv : ag_L) : ag_L := lv.map fun q => (q.1, ag_v G q.2)
def ag_ev (P : ag_P) (l : Launch) (G : ag_G) (M : ag_M) (d : Nat) (Z : ag_Z) (pc : Nat) (lv : ag_L) (st : List Value) (h : ag_H) : Prop :=
  ∀ (p : Program) (e : Env) (s : State) (m : MethodId) (args : Array Value) (below : List Frame) (meth : Method) (c : Code) (ls : Array Slot) (H : Heap) (locs : List Loc) (n0 s0 : Nat),
    ag_X P G M p s m meth c → s.heap.size + 2 = ag_sz G + n0 → ag_sum (ag_sz G) s.heap = s0 → lv_has ls M.2.2.1 (ag_lm G lv) → ag_R P G h H → va_S (ag_A G) s.heap H locs →
    W p l e (ag_rm G d n0 s0) s m args below meth c H locs (h.1 - n0) (h.2.1 - s0) (Z (ag_rm G d n0 s0) below args s) (F0 m pc ls (st.map (ag_v G)))
def ag_ir (v : Value) : Bool := match v with
  | .null => true
  | .ref _ => true
  | _ => false
def ag_get : ag_L → Nat → Option Value
  | [], _ => none
  | (j, w) :: t, i => bif Nat.beq j i then some w else ag_get t i
def ag_ins : ag_L → Nat → Value → ag_L
  | [], i, v => [(i, v)]
  | (j, w) :: t, i, v => bif Nat.ble i j then (i, v) :: (j, w) :: t else (j, w) :: ag_ins t i v
/-- a value of one word is stored; of two words -/
def ag_s1 (lv : ag_L) (i : Nat) (v : Value) : ag_L := ag_ins (lv.filter (fun q => !(q.1 == i) && !(q.1 + 1 == i && q.2.category == 2))) i v
def ag_s2 (lv : ag_L) (i : Nat) (v : Value) : ag_L := ag_ins (lv.filter (fun q => !(q.1 == i) && (!(q.1 == i + 1) && !(q.1 + 1 == i && q.2.category == 2)))) i v
theorem ag_get_mem : ∀ {lv : ag_L} {i : Nat} {v : Value}, ag_get lv i = some v → (i, v) ∈ lv
  | [], _, _, h => by cases h
  | (j, w) :: t, i, v, h => by
    unfold ag_get at h
    cases hb : Nat.beq j i with
    | true =>
      rw [hb] at h
      have hj := Nat.eq_of_beq_eq_true hb
      subst hj
      have hw : w = v := Option.some.inj h
      subst hw
      exact List.mem_cons_self
    | false =>
      rw [hb] at h
      exact List.mem_cons_of_mem _ (ag_get_mem h)
theorem ag_ins_mem {i : Nat} {v : Value} {q : Nat × Value} : ∀ {lv : ag_L}, q ∈ ag_ins lv i v → q = (i, v) ∨ q ∈ lv
  | [], h => by
    unfold ag_ins at h
    exact Or.inl (List.mem_singleton.mp h)
  | (j, w) :: t, h => by
    unfold ag_ins at h
    cases hb : Nat.ble i j with
    | true =>
      rw [hb] at h
      rcases List.mem_cons.mp h with h | h
      · exact Or.inl h
      · exact Or.inr h
    | false =>
      rw [hb] at h
      rcases List.mem_cons.mp h with h | h
      · exact Or.inr (by rw [h]; exact List.mem_cons_self)
      · rcases ag_ins_mem h with h | h
        · exact Or.inl h
        · exact Or.inr (List.mem_cons_of_mem _ h)
theorem ag_has_get {G : ag_G} {ls : Array Slot} {nL : Nat} {lv : ag_L} (h : lv_has ls nL (ag_lm G lv)) {i : Nat} {v : Value} (hg : ag_get lv i = some v) : ls[i]? = some (.val (ag_v G v)) :=
  h.2.2 (i, ag_v G v) (List.mem_map.mpr ⟨(i, v), ag_get_mem hg, rfl⟩)
theorem ag_has_s1 {G : ag_G} {ls : Array Slot} {nL : Nat} {lv : ag_L} {i : Nat} {v : Value} (h : lv_has ls nL ((i, ag_v G v) :: (ag_lm G lv).filter (fun q => !(q.1 == i) && !(q.1 + 1 == i && q.2.category == 2)))) : lv_has ls nL (ag_lm G (ag_s1 lv i v)) := by
  refine ⟨h.1, h.2.1, fun q hq => ?_⟩
  obtain ⟨x, hx, rfl⟩ := List.mem_map.mp hq
  rcases ag_ins_mem hx with rfl | hx
  · exact h.2.2 _ List.mem_cons_self
  · obtain ⟨g1, g2⟩ := List.mem_filter.mp hx
    exact h.2.2 (x.1, ag_v G x.2) (List.mem_cons_of_mem _ (List.mem_filter.mpr ⟨List.mem_map.mpr ⟨x, g1, rfl⟩, by rw [ag_v_cat]; exact g2⟩))
theorem ag_has_s2 {G : ag_G} {ls : Array Slot} {nL : Nat} {lv : ag_L} {i : Nat} {v : Value} (h : lv_has ls nL ((i, ag_v G v) :: (ag_lm G lv).filter (fun q => !(q.1 == i) && (!(q.1 == i + 1) && !(q.1 + 1 == i && q.2.category == 2))))) : lv_has ls nL (ag_lm G (ag_s2 lv i v)) := by
  refine ⟨h.1, h.2.1, fun q hq => ?_⟩
  obtain ⟨x, hx, rfl⟩ := List.mem_map.mp hq
  rcases ag_ins_mem hx with rfl | hx
  · exact h.2.2 _ List.mem_cons_self
  · obtain ⟨g1, g2⟩ := List.mem_filter.mp hx
    exact h.2.2 (x.1, ag_v G x.2) (List.mem_cons_of_mem _ (List.mem_filter.mpr ⟨List.mem_map.mpr ⟨x, g1, rfl⟩, by rw [ag_v_cat]; exact g2⟩))
section AGI
variable {P : ag_P} {l : Launch} {G : ag_G} {M : ag_M} {d : Nat} {Z : ag_Z} {pc : Nat} {lv : ag_L} {st : List Value} {h : ag_H}
/-- fewer locals may be known -/
theorem ag_drop {lv' : ag_L} (hs : ∀ q ∈ lv', q ∈ lv) (k : ag_ev P l G M d Z pc lv' st h) : ag_ev P l G M d Z pc lv st h := by
  intro p e s m args below meth c ls H locs n0 s0 X h0 h1 hl hr hS
  refine k p e s m args below meth c ls H locs n0 s0 X h0 h1 ⟨hl.1, hl.2.1, fun q hq => ?_⟩ hr hS
  obtain ⟨x, hx, rfl⟩ := List.mem_map.mp hq
  exact hl.2.2 _ (List.mem_map.mpr ⟨x, hs x hx, rfl⟩)
theorem ag_dropL {lv' : ag_L} (hs : lv'.all (fun q => decide (ag_get lv q.1 = some q.2)) = true) (k : ag_ev P l G M d Z pc lv' st h) : ag_ev P l G M d Z pc lv st h :=
  ag_drop (fun q hq => ag_get_mem (of_decide_eq_true (List.all_eq_true.mp hs q hq))) k
theorem ag_iconst {n : Int} (hd : decode M.2.1 pc = .ok (.iconst n, 1)) (k : ag_ev P l G M d Z (pc + 1) lv (.int (Int32.ofInt n) :: st) h) : ag_ev P l G M d Z pc lv st h := by
  intro p e s m args below meth c ls H locs n0 s0 X h0 h1 hl hr hS
  exact lv_iconst X.1 X.2.1 hd rfl (k p e s m args below meth c ls H locs n0 s0 X h0 h1 hl hr hS)
theorem ag_bipush {n : Int} (hd : decode M.2.1 pc = .ok (.bipush n, 2)) (k : ag_ev P l G M d Z (pc + 2) lv (.int (Int8.ofInt n).toInt32 :: st) h) : ag_ev P l G M d Z pc lv st h := by
  intro p e s m args below meth c ls H locs n0 s0 X h0 h1 hl hr hS
  exact lv_bipush X.1 X.2.1 hd rfl (k p e s m args below meth c ls H locs n0 s0 X h0 h1 hl hr hS)
theorem ag_sipush {n : Int} (hd : decode M.2.1 pc = .ok (.sipush n, 3)) (k : ag_ev P l G M d Z (pc + 3) lv (.int (Int16.ofInt n).toInt32 :: st) h) : ag_ev P l G M d Z pc lv st h := by
  intro p e s m args below meth c ls H locs n0 s0 X h0 h1 hl hr hS
  exact lv_sipush X.1 X.2.1 hd rfl (k p e s m args below meth c ls H locs n0 s0 X h0 h1 hl hr hS)
theorem ag_lconst {n : Fin 2} (hd : decode M.2.1 pc = .ok (.lconst n, 1)) (k : ag_ev P l G M d Z (pc + 1) lv (.long (Int64.ofNat (n : Nat)) :: st) h) : ag_ev P l G M d Z pc lv st h := by
  intro p e s m args below meth c ls H locs n0 s0 X h0 h1 hl hr hS
  exact lv_lconst X.1 X.2.1 hd rfl (k p e s m args below meth c ls H locs n0 s0 X h0 h1 hl hr hS)
theorem ag_null (hd : decode M.2.1 pc = .ok (.aconst_null, 1)) (k : ag_ev P l G M d Z (pc + 1) lv (.null :: st) h) : ag_ev P l G M d Z pc lv st h := by
  intro p e s m args below meth c ls H locs n0 s0 X h0 h1 hl hr hS
  exact lv_null X.1 X.2.1 hd (k p e s m args below meth c ls H locs n0 s0 X h0 h1 hl hr hS)
theorem ag_ldc {ix : Nat} {v : Int32} (hd : decode M.2.1 pc = .ok (.ldc ix, 2)) (hw : Cond.constant M.1.cls ix v ∈ P.1) (k : ag_ev P l G M d Z (pc + 2) lv (.int v :: st) h) : ag_ev P l G M d Z pc lv st h := by
  intro p e s m args below meth c ls H locs n0 s0 X h0 h1 hl hr hS
  exact lv_ldc X.1 X.2.1 X.2.2.2.2.2.1 (X.2.2.2.2.2.2.2.hts _ hw) hd (k p e s m args below meth c ls H locs n0 s0 X h0 h1 hl hr hS)
theorem ag_ldcw {ix : Nat} {v : Int32} (hd : decode M.2.1 pc = .ok (.ldc_w ix, 3)) (hw : Cond.constant M.1.cls ix v ∈ P.1) (k : ag_ev P l G M d Z (pc + 3) lv (.int v :: st) h) : ag_ev P l G M d Z pc lv st h := by
  intro p e s m args below meth c ls H locs n0 s0 X h0 h1 hl hr hS
  exact lv_ldcw X.1 X.2.1 X.2.2.2.2.2.1 (X.2.2.2.2.2.2.2.hts _ hw) hd (k p e s m args below meth c ls H locs n0 s0 X h0 h1 hl hr hS)
theorem ag_ldc2 {ix : Nat} {v : Int64} (hd : decode M.2.1 pc = .ok (.ldc2_w ix, 3)) (hw : Cond.constantLong M.1.cls ix v ∈ P.1) (k : ag_ev P l G M d Z (pc + 3) lv (.long v :: st) h) : ag_ev P l G M d Z pc lv st h := by
  intro p e s m args below meth c ls H locs n0 s0 X h0 h1 hl hr hS
  exact lv_ldc2 X.1 X.2.1 X.2.2.2.2.2.1 (X.2.2.2.2.2.2.2.hts _ hw) hd (k p e s m args below meth c ls H locs n0 s0 X h0 h1 hl hr hS)
theorem ag_iload_n {n : Fin 4} {x : Int32} (hd : decode M.2.1 pc = .ok (.iload_n n, 1)) (hg : ag_get lv (n : Nat) = some (.int x)) (k : ag_ev P l G M d Z (pc + 1) lv (.int x :: st) h) : ag_ev P l G M d Z pc lv st h := by
  intro p e s m args below meth c ls H locs n0 s0 X h0 h1 hl hr hS
  exact lv_iload_n X.1 X.2.1 hd rfl (ag_has_get hl hg) (k p e s m args below meth c ls H locs n0 s0 X h0 h1 hl hr hS)
theorem ag_iload {n : Nat} {x : Int32} (hd : decode M.2.1 pc = .ok (.iload n, 2)) (hg : ag_get lv n = some (.int x)) (k : ag_ev P l G M d Z (pc + 2) lv (.int x :: st) h) : ag_ev P l G M d Z pc lv st h := by
  intro p e s m args below meth c ls H locs n0 s0 X h0 h1 hl hr hS
  exact lv_iload X.1 X.2.1 hd (ag_has_get hl hg) (k p e s m args below meth c ls H locs n0 s0 X h0 h1 hl hr hS)
theorem ag_lload_n {n : Fin 4} {x : Int64} (hd : decode M.2.1 pc = .ok (.lload_n n, 1)) (hg : ag_get lv (n : Nat) = some (.long x)) (k : ag_ev P l G M d Z (pc + 1) lv (.long x :: st) h) : ag_ev P l G M d Z pc lv st h := by
  intro p e s m args below meth c ls H locs n0 s0 X h0 h1 hl hr hS
  exact lv_lload_n X.1 X.2.1 hd rfl (ag_has_get hl hg) (k p e s m args below meth c ls H locs n0 s0 X h0 h1 hl hr hS)
theorem ag_lload {n : Nat} {x : Int64} (hd : decode M.2.1 pc = .ok (.lload n, 2)) (hg : ag_get lv n = some (.long x)) (k : ag_ev P l G M d Z (pc + 2) lv (.long x :: st) h) : ag_ev P l G M d Z pc lv st h := by
  intro p e s m args below meth c ls H locs n0 s0 X h0 h1 hl hr hS
  exact lv_lload X.1 X.2.1 hd (ag_has_get hl hg) (k p e s m args below meth c ls H locs n0 s0 X h0 h1 hl hr hS)
theorem ag_aload_n {n : Fin 4} {x : Nat} (hd : decode M.2.1 pc = .ok (.aload_n n, 1)) (hg : ag_get lv (n : Nat) = some (.ref x)) (k : ag_ev P l G M d Z (pc + 1) lv (.ref x :: st) h) : ag_ev P l G M d Z pc lv st h := by
  intro p e s m args below meth c ls H locs n0 s0 X h0 h1 hl hr hS
  exact lv_aload_n X.1 X.2.1 hd rfl (ag_has_get hl hg) (k p e s m args below meth c ls H locs n0 s0 X h0 h1 hl hr hS)
theorem ag_aload {n : Nat} {x : Nat} (hd : decode M.2.1 pc = .ok (.aload n, 2)) (hg : ag_get lv n = some (.ref x)) (k : ag_ev P l G M d Z (pc + 2) lv (.ref x :: st) h) : ag_ev P l G M d Z pc lv st h := by
  intro p e s m args below meth c ls H locs n0 s0 X h0 h1 hl hr hS
  exact lv_aload X.1 X.2.1 hd (ag_has_get hl hg) (k p e s m args below meth c ls H locs n0 s0 X h0 h1 hl hr hS)
theorem ag_aload_nN {n : Fin 4} (hd : decode M.2.1 pc = .ok (.aload_n n, 1)) (hg : ag_get lv (n : Nat) = some .null) (k : ag_ev P l G M d Z (pc + 1) lv (.null :: st) h) : ag_ev P l G M d Z pc lv st h := by
  intro p e s m args below meth c ls H locs n0 s0 X h0 h1 hl hr hS
  exact lv_aload_nN X.1 X.2.1 hd rfl (ag_has_get hl hg) (k p e s m args below meth c ls H locs n0 s0 X h0 h1 hl hr hS)
theorem ag_aloadN {n : Nat} (hd : decode M.2.1 pc = .ok (.aload n, 2)) (hg : ag_get lv n = some .null) (k : ag_ev P l G M d Z (pc + 2) lv (.null :: st) h) : ag_ev P l G M d Z pc lv st h := by
  intro p e s m args below meth c ls H locs n0 s0 X h0 h1 hl hr hS
  exact lv_aloadN X.1 X.2.1 hd (ag_has_get hl hg) (k p e s m args below meth c ls H locs n0 s0 X h0 h1 hl hr hS)
theorem ag_aloadV_n {n : Fin 4} {v : Value} (hd : decode M.2.1 pc = .ok (.aload_n n, 1)) (hg : ag_get lv n = some v) (hv : ag_ir v = true) (k : ag_ev P l G M d Z (pc + 1) lv (v :: st) h) : ag_ev P l G M d Z pc lv st h := by
  cases v <;> first | cases hv | skip
  · exact ag_aload_nN hd hg k
  · exact ag_aload_n hd hg k
theorem ag_aloadV {n : Nat} {v : Value} (hd : decode M.2.1 pc = .ok (.aload n, 2)) (hg : ag_get lv n = some v) (hv : ag_ir v = true) (k : ag_ev P l G M d Z (pc + 2) lv (v :: st) h) : ag_ev P l G M d Z pc lv st h := by
  cases v <;> first | cases hv | skip
  · exact ag_aloadN hd hg k
  · exact ag_aload hd hg k
theorem ag_istore_n {n : Fin 4} {x : Int32} (hd : decode M.2.1 pc = .ok (.istore_n n, 1)) (hn : (n : Nat) < M.2.2.1) (k : ag_ev P l G M d Z (pc + 1) (ag_s1 lv n (.int x)) st h) : ag_ev P l G M d Z pc lv (.int x :: st) h := by
  intro p e s m args below meth c ls H locs n0 s0 X h0 h1 hl hr hS
  exact lv_istore_n X.1 X.2.1 hd rfl hl hn rfl (fun ls' hl' => k p e s m args below meth c ls' H locs n0 s0 X h0 h1 (ag_has_s1 (v := .int x) hl') hr hS)
theorem ag_istore {n : Nat} {x : Int32} (hd : decode M.2.1 pc = .ok (.istore n, 2)) (hn : (n : Nat) < M.2.2.1) (k : ag_ev P l G M d Z (pc + 2) (ag_s1 lv n (.int x)) st h) : ag_ev P l G M d Z pc lv (.int x :: st) h := by
  intro p e s m args below meth c ls H locs n0 s0 X h0 h1 hl hr hS
  exact lv_istore X.1 X.2.1 hd hl hn rfl (fun ls' hl' => k p e s m args below meth c ls' H locs n0 s0 X h0 h1 (ag_has_s1 (v := .int x) hl') hr hS)
theorem ag_lstore_n {n : Fin 4} {x : Int64} (hd : decode M.2.1 pc = .ok (.lstore_n n, 1)) (hn : (n : Nat) + 1 < M.2.2.1) (k : ag_ev P l G M d Z (pc + 1) (ag_s2 lv n (.long x)) st h) : ag_ev P l G M d Z pc lv (.long x :: st) h := by
  intro p e s m args below meth c ls H locs n0 s0 X h0 h1 hl hr hS
  exact lv_lstore_n X.1 X.2.1 hd rfl hl hn rfl (fun ls' hl' => k p e s m args below meth c ls' H locs n0 s0 X h0 h1 (ag_has_s2 (v := .long x) hl') hr hS)
theorem ag_lstore {n : Nat} {x : Int64} (hd : decode M.2.1 pc = .ok (.lstore n, 2)) (hn : (n : Nat) + 1 < M.2.2.1) (k : ag_ev P l G M d Z (pc + 2) (ag_s2 lv n (.long x)) st h) : ag_ev P l G M d Z pc lv (.long x :: st) h := by
  intro p e s m args below meth c ls H locs n0 s0 X h0 h1 hl hr hS
  exact lv_lstore X.1 X.2.1 hd hl hn rfl (fun ls' hl' => k p e s m args below meth c ls' H locs n0 s0 X h0 h1 (ag_has_s2 (v := .long x) hl') hr hS)
theorem ag_astore_n {n : Fin 4} {x : Nat} (hd : decode M.2.1 pc = .ok (.astore_n n, 1)) (hn : (n : Nat) < M.2.2.1) (k : ag_ev P l G M d Z (pc + 1) (ag_s1 lv n (.ref x)) st h) : ag_ev P l G M d Z pc lv (.ref x :: st) h := by
  intro p e s m args below meth c ls H locs n0 s0 X h0 h1 hl hr hS
  exact lv_astore_n X.1 X.2.1 hd rfl hl hn rfl (fun ls' hl' => k p e s m args below meth c ls' H locs n0 s0 X h0 h1 (ag_has_s1 (v := .ref x) hl') hr hS)
theorem ag_astore {n : Nat} {x : Nat} (hd : decode M.2.1 pc = .ok (.astore n, 2)) (hn : (n : Nat) < M.2.2.1) (k : ag_ev P l G M d Z (pc + 2) (ag_s1 lv n (.ref x)) st h) : ag_ev P l G M d Z pc lv (.ref x :: st) h := by
  intro p e s m args below meth c ls H locs n0 s0 X h0 h1 hl hr hS
  exact lv_astore X.1 X.2.1 hd hl hn rfl (fun ls' hl' => k p e s m args below meth c ls' H locs n0 s0 X h0 h1 (ag_has_s1 (v := .ref x) hl') hr hS)
theorem ag_astore_nN {n : Fin 4} (hd : decode M.2.1 pc = .ok (.astore_n n, 1)) (hn : (n : Nat) < M.2.2.1) (k : ag_ev P l G M d Z (pc + 1) (ag_s1 lv n .null) st h) : ag_ev P l G M d Z pc lv (.null :: st) h := by
  intro p e s m args below meth c ls H locs n0 s0 X h0 h1 hl hr hS
  exact lv_astore_nN X.1 X.2.1 hd rfl hl hn rfl (fun ls' hl' => k p e s m args below meth c ls' H locs n0 s0 X h0 h1 (ag_has_s1 (v := .null) hl') hr hS)
theorem ag_astoreV_n {n : Fin 4} {v : Value} (hd : decode M.2.1 pc = .ok (.astore_n n, 1)) (hn : (n : Nat) < M.2.2.1) (hv : ag_ir v = true) (k : ag_ev P l G M d Z (pc + 1) (ag_s1 lv n v) st h) : ag_ev P l G M d Z pc lv (v :: st) h := by
  cases v <;> first | cases hv | skip
  · exact ag_astore_nN hd hn k
  · exact ag_astore_n hd hn k
theorem ag_astoreN {n : Nat} (hd : decode M.2.1 pc = .ok (.astore n, 2)) (hn : (n : Nat) < M.2.2.1) (k : ag_ev P l G M d Z (pc + 2) (ag_s1 lv n .null) st h) : ag_ev P l G M d Z pc lv (.null :: st) h := by
  intro p e s m args below meth c ls H locs n0 s0 X h0 h1 hl hr hS
  exact lv_astoreN X.1 X.2.1 hd hl hn rfl (fun ls' hl' => k p e s m args below meth c ls' H locs n0 s0 X h0 h1 (ag_has_s1 (v := .null) hl') hr hS)
theorem ag_astoreV {n : Nat} {v : Value} (hd : decode M.2.1 pc = .ok (.astore n, 2)) (hn : (n : Nat) < M.2.2.1) (hv : ag_ir v = true) (k : ag_ev P l G M d Z (pc + 2) (ag_s1 lv n v) st h) : ag_ev P l G M d Z pc lv (v :: st) h := by
  cases v <;> first | cases hv | skip
  · exact ag_astoreN hd hn k
  · exact ag_astore hd hn k
theorem ag_iinc {n : Nat} {i : Int} {x : Int32} (hd : decode M.2.1 pc = .ok (.iinc n i, 3)) (hg : ag_get lv n = some (.int x)) (hn : n < M.2.2.1) (k : ag_ev P l G M d Z (pc + 3) (ag_s1 lv n (.int (x + Int32.ofInt i))) st h) : ag_ev P l G M d Z pc lv st h := by
  intro p e s m args below meth c ls H locs n0 s0 X h0 h1 hl hr hS
  obtain ⟨j, hj⟩ := List.getElem?_of_mem (List.mem_map.mpr ⟨(n, Value.int x), ag_get_mem hg, rfl⟩ : (n, ag_v G (.int x)) ∈ ag_lm G lv)
  exact lv_iinc X.1 X.2.1 hd hl hj rfl hn rfl (fun ls' hl' => k p e s m args below meth c ls' H locs n0 s0 X h0 h1 (ag_has_s1 (v := .int (x + Int32.ofInt i)) hl') hr hS)
theorem ag_iadd {x y : Int32} (hd : decode M.2.1 pc = .ok (.iadd, 1)) (k : ag_ev P l G M d Z (pc + 1) lv (.int (x + y) :: st) h) : ag_ev P l G M d Z pc lv (.int y :: .int x :: st) h := by
  intro p e s m args below meth c ls H locs n0 s0 X h0 h1 hl hr hS
  exact lv_iadd X.1 X.2.1 hd (k p e s m args below meth c ls H locs n0 s0 X h0 h1 hl hr hS)
theorem ag_isub {x y : Int32} (hd : decode M.2.1 pc = .ok (.isub, 1)) (k : ag_ev P l G M d Z (pc + 1) lv (.int (x - y) :: st) h) : ag_ev P l G M d Z pc lv (.int y :: .int x :: st) h := by
  intro p e s m args below meth c ls H locs n0 s0 X h0 h1 hl hr hS
  exact lv_isub X.1 X.2.1 hd (k p e s m args below meth c ls H locs n0 s0 X h0 h1 hl hr hS)
theorem ag_imul {x y : Int32} (hd : decode M.2.1 pc = .ok (.imul, 1)) (k : ag_ev P l G M d Z (pc + 1) lv (.int (x * y) :: st) h) : ag_ev P l G M d Z pc lv (.int y :: .int x :: st) h := by
  intro p e s m args below meth c ls H locs n0 s0 X h0 h1 hl hr hS
  exact lv_imul X.1 X.2.1 hd (k p e s m args below meth c ls H locs n0 s0 X h0 h1 hl hr hS)
theorem ag_iand {x y : Int32} (hd : decode M.2.1 pc = .ok (.iand, 1)) (k : ag_ev P l G M d Z (pc + 1) lv (.int (x &&& y) :: st) h) : ag_ev P l G M d Z pc lv (.int y :: .int x :: st) h := by
  intro p e s m args below meth c ls H locs n0 s0 X h0 h1 hl hr hS
  exact lv_iand X.1 X.2.1 hd (k p e s m args below meth c ls H locs n0 s0 X h0 h1 hl hr hS)
theorem ag_ior {x y : Int32} (hd : decode M.2.1 pc = .ok (.ior, 1)) (k : ag_ev P l G M d Z (pc + 1) lv (.int (x ||| y) :: st) h) : ag_ev P l G M d Z pc lv (.int y :: .int x :: st) h := by
  intro p e s m args below meth c ls H locs n0 s0 X h0 h1 hl hr hS
  exact lv_ior X.1 X.2.1 hd (k p e s m args below meth c ls H locs n0 s0 X h0 h1 hl hr hS)
theorem ag_ixor {x y : Int32} (hd : decode M.2.1 pc = .ok (.ixor, 1)) (k : ag_ev P l G M d Z (pc + 1) lv (.int (x ^^^ y) :: st) h) : ag_ev P l G M d Z pc lv (.int y :: .int x :: st) h := by
  intro p e s m args below meth c ls H locs n0 s0 X h0 h1 hl hr hS
  exact lv_ixor X.1 X.2.1 hd (k p e s m args below meth c ls H locs n0 s0 X h0 h1 hl hr hS)
theorem ag_ishl {x y : Int32} (hd : decode M.2.1 pc = .ok (.ishl, 1)) (k : ag_ev P l G M d Z (pc + 1) lv (.int (x <<< (y &&& 31)) :: st) h) : ag_ev P l G M d Z pc lv (.int y :: .int x :: st) h := by
  intro p e s m args below meth c ls H locs n0 s0 X h0 h1 hl hr hS
  exact lv_ishl X.1 X.2.1 hd (k p e s m args below meth c ls H locs n0 s0 X h0 h1 hl hr hS)
theorem ag_ishr {x y : Int32} (hd : decode M.2.1 pc = .ok (.ishr, 1)) (k : ag_ev P l G M d Z (pc + 1) lv (.int (x >>> (y &&& 31)) :: st) h) : ag_ev P l G M d Z pc lv (.int y :: .int x :: st) h := by
  intro p e s m args below meth c ls H locs n0 s0 X h0 h1 hl hr hS
  exact lv_ishr X.1 X.2.1 hd (k p e s m args below meth c ls H locs n0 s0 X h0 h1 hl hr hS)
theorem ag_iushr {x y : Int32} (hd : decode M.2.1 pc = .ok (.iushr, 1)) (k : ag_ev P l G M d Z (pc + 1) lv (.int (x.toUInt32 >>> (y.toUInt32 &&& Int32.toUInt32 31)).toInt32 :: st) h) : ag_ev P l G M d Z pc lv (.int y :: .int x :: st) h := by
  intro p e s m args below meth c ls H locs n0 s0 X h0 h1 hl hr hS
  exact lv_iushr X.1 X.2.1 hd rfl (k p e s m args below meth c ls H locs n0 s0 X h0 h1 hl hr hS)
theorem ag_idiv {x y : Int32} (hd : decode M.2.1 pc = .ok (.idiv, 1)) (hne : ¬ y = 0) (k : ag_ev P l G M d Z (pc + 1) lv (.int (x / y) :: st) h) : ag_ev P l G M d Z pc lv (.int y :: .int x :: st) h := by
  intro p e s m args below meth c ls H locs n0 s0 X h0 h1 hl hr hS
  exact lv_idiv X.1 X.2.1 hd hne (k p e s m args below meth c ls H locs n0 s0 X h0 h1 hl hr hS)
theorem ag_irem {x y : Int32} (hd : decode M.2.1 pc = .ok (.irem, 1)) (hne : ¬ y = 0) (k : ag_ev P l G M d Z (pc + 1) lv (.int (x - x / y * y) :: st) h) : ag_ev P l G M d Z pc lv (.int y :: .int x :: st) h := by
  intro p e s m args below meth c ls H locs n0 s0 X h0 h1 hl hr hS
  exact lv_irem X.1 X.2.1 hd hne (k p e s m args below meth c ls H locs n0 s0 X h0 h1 hl hr hS)
theorem ag_ineg {x : Int32} (hd : decode M.2.1 pc = .ok (.ineg, 1)) (k : ag_ev P l G M d Z (pc + 1) lv (.int (-x) :: st) h) : ag_ev P l G M d Z pc lv (.int x :: st) h := by
  intro p e s m args below meth c ls H locs n0 s0 X h0 h1 hl hr hS
  exact lv_ineg X.1 X.2.1 hd (k p e s m args below meth c ls H locs n0 s0 X h0 h1 hl hr hS)
theorem ag_ladd {x y : Int64} (hd : decode M.2.1 pc = .ok (.ladd, 1)) (k : ag_ev P l G M d Z (pc + 1) lv (.long (x + y) :: st) h) : ag_ev P l G M d Z pc lv (.long y :: .long x :: st) h := by
  intro p e s m args below meth c ls H locs n0 s0 X h0 h1 hl hr hS
  exact lv_ladd X.1 X.2.1 hd (k p e s m args below meth c ls H locs n0 s0 X h0 h1 hl hr hS)
theorem ag_lsub {x y : Int64} (hd : decode M.2.1 pc = .ok (.lsub, 1)) (k : ag_ev P l G M d Z (pc + 1) lv (.long (x - y) :: st) h) : ag_ev P l G M d Z pc lv (.long y :: .long x :: st) h := by
  intro p e s m args below meth c ls H locs n0 s0 X h0 h1 hl hr hS
  exact lv_lsub X.1 X.2.1 hd (k p e s m args below meth c ls H locs n0 s0 X h0 h1 hl hr hS)
theorem ag_lmul {x y : Int64} (hd : decode M.2.1 pc = .ok (.lmul, 1)) (k : ag_ev P l G M d Z (pc + 1) lv (.long (x * y) :: st) h) : ag_ev P l G M d Z pc lv (.long y :: .long x :: st) h := by
  intro p e s m args below meth c ls H locs n0 s0 X h0 h1 hl hr hS
  exact lv_lmul X.1 X.2.1 hd (k p e s m args below meth c ls H locs n0 s0 X h0 h1 hl hr hS)
theorem ag_ldiv {x y : Int64} (hd : decode M.2.1 pc = .ok (.ldiv, 1)) (hne : ¬ y = 0) (k : ag_ev P l G M d Z (pc + 1) lv (.long (x / y) :: st) h) : ag_ev P l G M d Z pc lv (.long y :: .long x :: st) h := by
  intro p e s m args below meth c ls H locs n0 s0 X h0 h1 hl hr hS
  exact lv_ldiv X.1 X.2.1 hd hne (k p e s m args below meth c ls H locs n0 s0 X h0 h1 hl hr hS)
theorem ag_lcmp {x y : Int64} (hd : decode M.2.1 pc = .ok (.lcmp, 1)) (k : ag_ev P l G M d Z (pc + 1) lv (.int (lg_cmp x y) :: st) h) : ag_ev P l G M d Z pc lv (.long y :: .long x :: st) h := by
  intro p e s m args below meth c ls H locs n0 s0 X h0 h1 hl hr hS
  exact W.lcmp X.1 X.2.1 hd (k p e s m args below meth c ls H locs n0 s0 X h0 h1 hl hr hS)
theorem ag_i2l {x : Int32} (hd : decode M.2.1 pc = .ok (.i2l, 1)) (k : ag_ev P l G M d Z (pc + 1) lv (.long x.toInt64 :: st) h) : ag_ev P l G M d Z pc lv (.int x :: st) h := by
  intro p e s m args below meth c ls H locs n0 s0 X h0 h1 hl hr hS
  exact lv_i2l X.1 X.2.1 hd rfl (k p e s m args below meth c ls H locs n0 s0 X h0 h1 hl hr hS)
theorem ag_l2i {x : Int64} (hd : decode M.2.1 pc = .ok (.l2i, 1)) (k : ag_ev P l G M d Z (pc + 1) lv (.int x.toInt32 :: st) h) : ag_ev P l G M d Z pc lv (.long x :: st) h := by
  intro p e s m args below meth c ls H locs n0 s0 X h0 h1 hl hr hS
  exact lv_l2i X.1 X.2.1 hd rfl (k p e s m args below meth c ls H locs n0 s0 X h0 h1 hl hr hS)
theorem ag_i2c {x : Int32} (hd : decode M.2.1 pc = .ok (.i2c, 1)) (k : ag_ev P l G M d Z (pc + 1) lv (.int (x.toUInt32 % 65536).toInt32 :: st) h) : ag_ev P l G M d Z pc lv (.int x :: st) h := by
  intro p e s m args below meth c ls H locs n0 s0 X h0 h1 hl hr hS
  exact lv_i2c X.1 X.2.1 hd rfl (k p e s m args below meth c ls H locs n0 s0 X h0 h1 hl hr hS)
theorem ag_i2b {x : Int32} (hd : decode M.2.1 pc = .ok (.i2b, 1)) (k : ag_ev P l G M d Z (pc + 1) lv (.int x.toInt8.toInt32 :: st) h) : ag_ev P l G M d Z pc lv (.int x :: st) h := by
  intro p e s m args below meth c ls H locs n0 s0 X h0 h1 hl hr hS
  exact lv_i2b X.1 X.2.1 hd rfl (k p e s m args below meth c ls H locs n0 s0 X h0 h1 hl hr hS)
theorem ag_dup {a : Value} (hd : decode M.2.1 pc = .ok (.dup, 1)) (ha : a.category = 1) (k : ag_ev P l G M d Z (pc + 1) lv (a :: a :: st) h) : ag_ev P l G M d Z pc lv (a :: st) h := by
  intro p e s m args below meth c ls H locs n0 s0 X h0 h1 hl hr hS
  exact lv_dup X.1 X.2.1 hd ((ag_v_cat G _).trans ha) (k p e s m args below meth c ls H locs n0 s0 X h0 h1 hl hr hS)
theorem ag_pop {a : Value} (hd : decode M.2.1 pc = .ok (.pop, 1)) (ha : a.category = 1) (k : ag_ev P l G M d Z (pc + 1) lv st h) : ag_ev P l G M d Z pc lv (a :: st) h := by
  intro p e s m args below meth c ls H locs n0 s0 X h0 h1 hl hr hS
  exact lv_pop X.1 X.2.1 hd ((ag_v_cat G _).trans ha) (k p e s m args below meth c ls H locs n0 s0 X h0 h1 hl hr hS)
theorem ag_dup_x1 {a b : Value} (hd : decode M.2.1 pc = .ok (.dup_x1, 1)) (ha : a.category = 1) (hb : b.category = 1) (k : ag_ev P l G M d Z (pc + 1) lv (a :: b :: a :: st) h) : ag_ev P l G M d Z pc lv (a :: b :: st) h := by
  intro p e s m args below meth c ls H locs n0 s0 X h0 h1 hl hr hS
  exact lv_dup_x1 X.1 X.2.1 hd ((ag_v_cat G _).trans ha) ((ag_v_cat G _).trans hb) (k p e s m args below meth c ls H locs n0 s0 X h0 h1 hl hr hS)
theorem ag_dup_x2 {a b z : Value} (hd : decode M.2.1 pc = .ok (.dup_x2, 1)) (ha : a.category = 1) (hb : b.category = 1) (hz : z.category = 1) (k : ag_ev P l G M d Z (pc + 1) lv (a :: b :: z :: a :: st) h) : ag_ev P l G M d Z pc lv (a :: b :: z :: st) h := by
  intro p e s m args below meth c ls H locs n0 s0 X h0 h1 hl hr hS
  exact lv_dup_x2 X.1 X.2.1 hd ((ag_v_cat G _).trans ha) ((ag_v_cat G _).trans hb) ((ag_v_cat G _).trans hz) (k p e s m args below meth c ls H locs n0 s0 X h0 h1 hl hr hS)
theorem ag_dup2 {a b : Value} (hd : decode M.2.1 pc = .ok (.dup2, 1)) (ha : a.category = 1) (hb : b.category = 1) (k : ag_ev P l G M d Z (pc + 1) lv (a :: b :: a :: b :: st) h) : ag_ev P l G M d Z pc lv (a :: b :: st) h := by
  intro p e s m args below meth c ls H locs n0 s0 X h0 h1 hl hr hS
  exact lv_dup2_11 X.1 X.2.1 hd ((ag_v_cat G _).trans ha) ((ag_v_cat G _).trans hb) (k p e s m args below meth c ls H locs n0 s0 X h0 h1 hl hr hS)
theorem ag_if_eq {x : Int32} {off : Int} {tgt : Nat} (hd : decode M.2.1 pc = .ok (.ifCond .eq off, 3)) (ht : (pc : Int) + off = (tgt : Int)) (kt : x = 0 → ag_ev P l G M d Z tgt lv st h) (kf : ¬ x = 0 → ag_ev P l G M d Z (pc + 3) lv st h) : ag_ev P l G M d Z pc lv (.int x :: st) h := by
  intro p e s m args below meth c ls H locs n0 s0 X h0 h1 hl hr hS
  exact lv_if_eq X.1 X.2.1 hd ht (fun q => kt q p e s m args below meth c ls H locs n0 s0 X h0 h1 hl hr hS) (fun q => kf q p e s m args below meth c ls H locs n0 s0 X h0 h1 hl hr hS)
theorem ag_icmp_eq {x y : Int32} {off : Int} {tgt : Nat} (hd : decode M.2.1 pc = .ok (.if_icmp .eq off, 3)) (ht : (pc : Int) + off = (tgt : Int)) (kt : x = y → ag_ev P l G M d Z tgt lv st h) (kf : ¬ x = y → ag_ev P l G M d Z (pc + 3) lv st h) : ag_ev P l G M d Z pc lv (.int y :: .int x :: st) h := by
  intro p e s m args below meth c ls H locs n0 s0 X h0 h1 hl hr hS
  exact lv_icmp_eq X.1 X.2.1 hd ht (fun q => kt q p e s m args below meth c ls H locs n0 s0 X h0 h1 hl hr hS) (fun q => kf q p e s m args below meth c ls H locs n0 s0 X h0 h1 hl hr hS)
theorem ag_if_ne {x : Int32} {off : Int} {tgt : Nat} (hd : decode M.2.1 pc = .ok (.ifCond .ne off, 3)) (ht : (pc : Int) + off = (tgt : Int)) (kt : ¬ x = 0 → ag_ev P l G M d Z tgt lv st h) (kf : x = 0 → ag_ev P l G M d Z (pc + 3) lv st h) : ag_ev P l G M d Z pc lv (.int x :: st) h := by
  intro p e s m args below meth c ls H locs n0 s0 X h0 h1 hl hr hS
  exact lv_if_ne X.1 X.2.1 hd ht (fun q => kt q p e s m args below meth c ls H locs n0 s0 X h0 h1 hl hr hS) (fun q => kf q p e s m args below meth c ls H locs n0 s0 X h0 h1 hl hr hS)
theorem ag_icmp_ne {x y : Int32} {off : Int} {tgt : Nat} (hd : decode M.2.1 pc = .ok (.if_icmp .ne off, 3)) (ht : (pc : Int) + off = (tgt : Int)) (kt : ¬ x = y → ag_ev P l G M d Z tgt lv st h) (kf : x = y → ag_ev P l G M d Z (pc + 3) lv st h) : ag_ev P l G M d Z pc lv (.int y :: .int x :: st) h := by
  intro p e s m args below meth c ls H locs n0 s0 X h0 h1 hl hr hS
  exact lv_icmp_ne X.1 X.2.1 hd ht (fun q => kt q p e s m args below meth c ls H locs n0 s0 X h0 h1 hl hr hS) (fun q => kf q p e s m args below meth c ls H locs n0 s0 X h0 h1 hl hr hS)
theorem ag_if_lt {x : Int32} {off : Int} {tgt : Nat} (hd : decode M.2.1 pc = .ok (.ifCond .lt off, 3)) (ht : (pc : Int) + off = (tgt : Int)) (kt : x < 0 → ag_ev P l G M d Z tgt lv st h) (kf : ¬ x < 0 → ag_ev P l G M d Z (pc + 3) lv st h) : ag_ev P l G M d Z pc lv (.int x :: st) h := by
  intro p e s m args below meth c ls H locs n0 s0 X h0 h1 hl hr hS
  exact lv_if_lt X.1 X.2.1 hd ht (fun q => kt q p e s m args below meth c ls H locs n0 s0 X h0 h1 hl hr hS) (fun q => kf q p e s m args below meth c ls H locs n0 s0 X h0 h1 hl hr hS)
theorem ag_icmp_lt {x y : Int32} {off : Int} {tgt : Nat} (hd : decode M.2.1 pc = .ok (.if_icmp .lt off, 3)) (ht : (pc : Int) + off = (tgt : Int)) (kt : x < y → ag_ev P l G M d Z tgt lv st h) (kf : ¬ x < y → ag_ev P l G M d Z (pc + 3) lv st h) : ag_ev P l G M d Z pc lv (.int y :: .int x :: st) h := by
  intro p e s m args below meth c ls H locs n0 s0 X h0 h1 hl hr hS
  exact lv_icmp_lt X.1 X.2.1 hd ht (fun q => kt q p e s m args below meth c ls H locs n0 s0 X h0 h1 hl hr hS) (fun q => kf q p e s m args below meth c ls H locs n0 s0 X h0 h1 hl hr hS)
theorem ag_if_ge {x : Int32} {off : Int} {tgt : Nat} (hd : decode M.2.1 pc = .ok (.ifCond .ge off, 3)) (ht : (pc : Int) + off = (tgt : Int)) (kt : 0 ≤ x → ag_ev P l G M d Z tgt lv st h) (kf : ¬ 0 ≤ x → ag_ev P l G M d Z (pc + 3) lv st h) : ag_ev P l G M d Z pc lv (.int x :: st) h := by
  intro p e s m args below meth c ls H locs n0 s0 X h0 h1 hl hr hS
  exact lv_if_ge X.1 X.2.1 hd ht (fun q => kt q p e s m args below meth c ls H locs n0 s0 X h0 h1 hl hr hS) (fun q => kf q p e s m args below meth c ls H locs n0 s0 X h0 h1 hl hr hS)
theorem ag_icmp_ge {x y : Int32} {off : Int} {tgt : Nat} (hd : decode M.2.1 pc = .ok (.if_icmp .ge off, 3)) (ht : (pc : Int) + off = (tgt : Int)) (kt : y ≤ x → ag_ev P l G M d Z tgt lv st h) (kf : ¬ y ≤ x → ag_ev P l G M d Z (pc + 3) lv st h) : ag_ev P l G M d Z pc lv (.int y :: .int x :: st) h := by
  intro p e s m args below meth c ls H locs n0 s0 X h0 h1 hl hr hS
  exact lv_icmp_ge X.1 X.2.1 hd ht (fun q => kt q p e s m args below meth c ls H locs n0 s0 X h0 h1 hl hr hS) (fun q => kf q p e s m args below meth c ls H locs n0 s0 X h0 h1 hl hr hS)
theorem ag_if_gt {x : Int32} {off : Int} {tgt : Nat} (hd : decode M.2.1 pc = .ok (.ifCond .gt off, 3)) (ht : (pc : Int) + off = (tgt : Int)) (kt : 0 < x → ag_ev P l G M d Z tgt lv st h) (kf : ¬ 0 < x → ag_ev P l G M d Z (pc + 3) lv st h) : ag_ev P l G M d Z pc lv (.int x :: st) h := by
  intro p e s m args below meth c ls H locs n0 s0 X h0 h1 hl hr hS
  exact lv_if_gt X.1 X.2.1 hd ht (fun q => kt q p e s m args below meth c ls H locs n0 s0 X h0 h1 hl hr hS) (fun q => kf q p e s m args below meth c ls H locs n0 s0 X h0 h1 hl hr hS)
theorem ag_icmp_gt {x y : Int32} {off : Int} {tgt : Nat} (hd : decode M.2.1 pc = .ok (.if_icmp .gt off, 3)) (ht : (pc : Int) + off = (tgt : Int)) (kt : y < x → ag_ev P l G M d Z tgt lv st h) (kf : ¬ y < x → ag_ev P l G M d Z (pc + 3) lv st h) : ag_ev P l G M d Z pc lv (.int y :: .int x :: st) h := by
  intro p e s m args below meth c ls H locs n0 s0 X h0 h1 hl hr hS
  exact lv_icmp_gt X.1 X.2.1 hd ht (fun q => kt q p e s m args below meth c ls H locs n0 s0 X h0 h1 hl hr hS) (fun q => kf q p e s m args below meth c ls H locs n0 s0 X h0 h1 hl hr hS)
theorem ag_if_le {x : Int32} {off : Int} {tgt : Nat} (hd : decode M.2.1 pc = .ok (.ifCond .le off, 3)) (ht : (pc : Int) + off = (tgt : Int)) (kt : x ≤ 0 → ag_ev P l G M d Z tgt lv st h) (kf : ¬ x ≤ 0 → ag_ev P l G M d Z (pc + 3) lv st h) : ag_ev P l G M d Z pc lv (.int x :: st) h := by
  intro p e s m args below meth c ls H locs n0 s0 X h0 h1 hl hr hS
  exact lv_if_le X.1 X.2.1 hd ht (fun q => kt q p e s m args below meth c ls H locs n0 s0 X h0 h1 hl hr hS) (fun q => kf q p e s m args below meth c ls H locs n0 s0 X h0 h1 hl hr hS)
theorem ag_icmp_le {x y : Int32} {off : Int} {tgt : Nat} (hd : decode M.2.1 pc = .ok (.if_icmp .le off, 3)) (ht : (pc : Int) + off = (tgt : Int)) (kt : x ≤ y → ag_ev P l G M d Z tgt lv st h) (kf : ¬ x ≤ y → ag_ev P l G M d Z (pc + 3) lv st h) : ag_ev P l G M d Z pc lv (.int y :: .int x :: st) h := by
  intro p e s m args below meth c ls H locs n0 s0 X h0 h1 hl hr hS
  exact lv_icmp_le X.1 X.2.1 hd ht (fun q => kt q p e s m args below meth c ls H locs n0 s0 X h0 h1 hl hr hS) (fun q => kf q p e s m args below meth c ls H locs n0 s0 X h0 h1 hl hr hS)
theorem ag_goto {off : Int} {tgt : Nat} (hd : decode M.2.1 pc = .ok (.goto off, 3)) (ht : (pc : Int) + off = (tgt : Int)) (k : ag_ev P l G M d Z tgt lv st h) : ag_ev P l G M d Z pc lv st h := by
  intro p e s m args below meth c ls H locs n0 s0 X h0 h1 hl hr hS
  exact lv_goto X.1 X.2.1 hd ht (k p e s m args below meth c ls H locs n0 s0 X h0 h1 hl hr hS)
theorem ag_ifnonnull {x : Nat} {off : Int} {tgt : Nat} (hd : decode M.2.1 pc = .ok (.ifnonnull off, 3)) (ht : (pc : Int) + off = (tgt : Int)) (k : ag_ev P l G M d Z tgt lv st h) : ag_ev P l G M d Z pc lv (.ref x :: st) h := by
  intro p e s m args below meth c ls H locs n0 s0 X h0 h1 hl hr hS
  exact lv_ifnonnull X.1 X.2.1 hd ht (k p e s m args below meth c ls H locs n0 s0 X h0 h1 hl hr hS)
theorem ag_ifnonnullN {off : Int} (hd : decode M.2.1 pc = .ok (.ifnonnull off, 3)) (k : ag_ev P l G M d Z (pc + 3) lv st h) : ag_ev P l G M d Z pc lv (.null :: st) h := by
  intro p e s m args below meth c ls H locs n0 s0 X h0 h1 hl hr hS
  exact lv_ifnonnullN X.1 X.2.1 hd (k p e s m args below meth c ls H locs n0 s0 X h0 h1 hl hr hS)
theorem ag_ifnull {x : Nat} {off : Int} (hd : decode M.2.1 pc = .ok (.ifnull off, 3)) (k : ag_ev P l G M d Z (pc + 3) lv st h) : ag_ev P l G M d Z pc lv (.ref x :: st) h := by
  intro p e s m args below meth c ls H locs n0 s0 X h0 h1 hl hr hS
  exact lv_ifnull X.1 X.2.1 hd (k p e s m args below meth c ls H locs n0 s0 X h0 h1 hl hr hS)
theorem ag_ifnullN {off : Int} {tgt : Nat} (hd : decode M.2.1 pc = .ok (.ifnull off, 3)) (ht : (pc : Int) + off = (tgt : Int)) (k : ag_ev P l G M d Z tgt lv st h) : ag_ev P l G M d Z pc lv (.null :: st) h := by
  intro p e s m args below meth c ls H locs n0 s0 X h0 h1 hl hr hS
  exact lv_ifnullN X.1 X.2.1 hd ht (k p e s m args below meth c ls H locs n0 s0 X h0 h1 hl hr hS)
theorem ag_tabIn {dflt lo hi : Int} {offs : Array Int} {len : Nat} {x : Int32} {off : Int} {tgt : Nat} (hd : decode M.2.1 pc = .ok (.tableswitch dflt lo hi offs, len)) (g1 : ¬ x.toInt < lo) (g2 : ¬ hi < x.toInt) (ho : offs[(x.toInt - lo).toNat]? = some off) (ht : (pc : Int) + off = (tgt : Int)) (k : ag_ev P l G M d Z tgt lv st h) : ag_ev P l G M d Z pc lv (.int x :: st) h := by
  intro p e s m args below meth c ls H locs n0 s0 X h0 h1 hl hr hS
  exact lv_tableIn X.1 X.2.1 hd g1 g2 ho ht (k p e s m args below meth c ls H locs n0 s0 X h0 h1 hl hr hS)
theorem ag_tabOut {dflt lo hi : Int} {offs : Array Int} {len : Nat} {x : Int32} {tgt : Nat} (hd : decode M.2.1 pc = .ok (.tableswitch dflt lo hi offs, len)) (g : x.toInt < lo ∨ hi < x.toInt) (ht : (pc : Int) + dflt = (tgt : Int)) (k : ag_ev P l G M d Z tgt lv st h) : ag_ev P l G M d Z pc lv (.int x :: st) h := by
  intro p e s m args below meth c ls H locs n0 s0 X h0 h1 hl hr hS
  exact lv_tableOut X.1 X.2.1 hd g ht (k p e s m args below meth c ls H locs n0 s0 X h0 h1 hl hr hS)
theorem ag_look {dflt : Int} {ps : Array (Int × Int)} {len : Nat} {x : Int32} {off : Int} {tgt : Nat} (hd : decode M.2.1 pc = .ok (.lookupswitch dflt ps, len)) (hp : (ps.toList.zip (ps.toList.drop 1)).all (fun (a, next) => a.1 < next.1) = true) (ho : Op.lookupswitch.offset ps.toList dflt x.toInt = off) (ht : (pc : Int) + off = (tgt : Int)) (k : ag_ev P l G M d Z tgt lv st h) : ag_ev P l G M d Z pc lv (.int x :: st) h := by
  intro p e s m args below meth c ls H locs n0 s0 X h0 h1 hl hr hS
  exact lv_lookup X.1 X.2.1 hd hp ho ht (k p e s m args below meth c ls H locs n0 s0 X h0 h1 hl hr hS)
end AGI
