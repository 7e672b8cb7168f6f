/-! ### One pure heap for a whole run: cells under small numbers (0: the script; 1: the library's empty array; 2 and on: what the run has made), and what it says of the machine's heap -/
abbrev ag_C : Type := (Nat × vp_A) ⊕ (Nat × List Value)
abbrev ag_H : Type := Nat × Nat × (Nat → ag_C)
abbrev ag_L : Type := List (Nat × Value)
abbrev ag_G : Type := (va_G × List (ClassId × FieldType)) × (Nat × Nat × Nat) × (Nat × (Nat → Int32)) × (Nat × Nat)
abbrev ag_P : Type := List Cond × List vw_C × List FieldType
abbrev ag_M : Type := MethodName × ByteArray × Nat × Option FieldType × List (Nat × Nat × Nat × Nat)
abbrev ag_D (G : ag_G) : va_G := G.1.1
abbrev ag_tys (G : ag_G) : List (ClassId × FieldType) := G.1.2
abbrev ag_sz (G : ag_G) : Nat := G.2.1.1
abbrev ag_b (G : ag_G) : Nat := G.2.1.2.1
abbrev ag_e0 (G : ag_G) : Nat := G.2.1.2.2
abbrev ag_Ln (G : ag_G) : Nat := G.2.2.1.1
abbrev ag_xs (G : ag_G) : Nat → Int32 := G.2.2.1.2
abbrev ag_cN (G : ag_G) : Nat := G.2.2.2.1
abbrev ag_cS (G : ag_G) : Nat := G.2.2.2.2
/-- the address of a cell -/
def ag_ad (G : ag_G) (k : Nat) : Nat := match k with
  | 0 => ag_b G
  | 1 => ag_e0 G
  | j + 2 => ag_sz G + j
/-- a value of the pure heap, as the machine has it -/
def ag_v (G : ag_G) (v : Value) : Value := match v with
  | .ref a => .ref (ag_ad G a)
  | .int x => .int x
  | .long x => .long x
  | .float x => .float x
  | .double x => .double x
  | .null => .null
  | .retAddr x => .retAddr x
theorem ag_v_cat (G : ag_G) (v : Value) : (ag_v G v).category = v.category := by cases v <;> rfl
def ag_x (G : ag_G) (x : vp_A) : vp_A := match x with
  | (n, .inl f) => (n, .inl f)
  | (n, .inr (.inl f)) => (n, .inr (.inl f))
  | (n, .inr (.inr (.inl f))) => (n, .inr (.inr (.inl f)))
  | (n, .inr (.inr (.inr (.inl f)))) => (n, .inr (.inr (.inr (.inl f))))
  | (n, .inr (.inr (.inr (.inr f)))) => (n, .inr (.inr (.inr (.inr (fun j => (f j).map (ag_ad G))))))
def ag_e (G : ag_G) (c : ag_C) : va_E := match c with
  | .inl (t, x) => .inl ((((ag_tys G)[t]?).getD (0, .int)).1, ag_x G x)
  | .inr (ci, fs) => .inr (ci, fs.map (ag_v G))
/-- which cells a run may change: those that it has made -/
def ag_A (G : ag_G) : Nat → Prop := fun q => ag_sz G ≤ q
/-- the slots of the cells from z on -/
def ag_sum (z : Nat) (H : Heap) : Nat := ((H.toList.drop z).map (·.slots.size)).sum
theorem ag_sum_same {z : Nat} {H H1 : Heap} (h : ∀ q : Nat, (H1[q]?).map (·.slots.size) = (H[q]?).map (·.slots.size)) : ag_sum z H1 = ag_sum z H := by
  unfold ag_sum
  congr 1
  apply List.ext_getElem?
  intro i
  simp only [List.getElem?_map, List.getElem?_drop, Array.getElem?_toList]
  exact h (z + i)
theorem ag_sum_push {z : Nat} {H H1 : Heap} {cell : Cell} (hz : z ≤ H.size) (e : H1[H.size]? = some cell) (s1 : H1.size = H.size + 1) (o : ∀ q : Nat, q < H.size → H1[q]? = H[q]?) : ag_sum z H1 = ag_sum z H + cell.slots.size := by
  have h1 : H1.toList = H.toList ++ [cell] := by
    apply List.ext_getElem?
    intro i
    rw [Array.getElem?_toList]
    by_cases hi : i < H.size
    · rw [o i hi, List.getElem?_append_left (by simpa using hi), Array.getElem?_toList]
    · by_cases hi2 : i = H.size
      · subst hi2
        rw [e, List.getElem?_append_right (by simp)]
        simp
      · rw [Array.getElem?_eq_none (by omega), List.getElem?_eq_none (by simp; omega)]
  unfold ag_sum
  rw [h1, List.drop_append_of_le_length (by simpa using hz), List.map_append, List.sum_append]
  simp
theorem ag_sum_split {z z1 : Nat} {H H0 : Heap} (hz : z ≤ z1) (h0 : H0.size = z1) (hk : ∀ q : Nat, q < z1 → (H[q]?).map (·.slots.size) = (H0[q]?).map (·.slots.size)) : ag_sum z H = ag_sum z H0 + ag_sum z1 H := by
  have h1 : (H.toList.drop z).map (·.slots.size) = ((H.toList.drop z).take (z1 - z)).map (·.slots.size) ++ ((H.toList.drop z).drop (z1 - z)).map (·.slots.size) := by
    rw [← List.map_append, List.take_append_drop]
  have h2 : (H.toList.drop z).drop (z1 - z) = H.toList.drop z1 := by
    rw [List.drop_drop]
    congr 1
    omega
  have h3 : ((H.toList.drop z).take (z1 - z)).map (·.slots.size) = (H0.toList.drop z).map (·.slots.size) := by
    apply List.ext_getElem?
    intro i
    by_cases hi : z + i < z1
    · rw [List.getElem?_map, List.getElem?_take_of_lt (by omega), List.getElem?_drop, List.getElem?_map, List.getElem?_drop, Array.getElem?_toList, Array.getElem?_toList]
      exact hk (z + i) hi
    · rw [List.getElem?_eq_none (by simp; omega), List.getElem?_eq_none (by simp; omega)]
  unfold ag_sum
  rw [h1, List.sum_append, h2, h3]
/-- the machine's heap holds the pure one -/
def ag_R (P : ag_P) (G : ag_G) (h : ag_H) (H : Heap) : Prop :=
  2 ≤ h.1 ∧ H.size + 2 = ag_sz G + h.1 ∧ ag_sum (ag_sz G) H = h.2.1 ∧ h.1 ≤ ag_cN G ∧ h.2.1 ≤ ag_cS G ∧ ∀ k : Nat, k + 2 < h.1 → va_at (ag_D G) P.2.1 (ag_sz G + k, ag_e G (h.2.2 (k + 2))) H
def ag_up (h : ag_H) (a : Nat) (c : ag_C) : ag_H := (h.1, h.2.1, va_up h.2.2 a c)
theorem ag_R.put {P : ag_P} {G : ag_G} {h : ag_H} {H H1 : Heap} {k : Nat} {c : ag_C} (hr : ag_R P G h H) (hk : k + 2 < h.1) (z : H1.size = H.size) (oq : ∀ q : Nat, q ≠ ag_sz G + k → H1[q]? = H[q]?)
    (hs : (H1[ag_sz G + k]?).map (·.slots.size) = (H[ag_sz G + k]?).map (·.slots.size)) (hc : va_at (ag_D G) P.2.1 (ag_sz G + k, ag_e G c) H1) : ag_R P G (ag_up h (k + 2) c) H1 := by
  obtain ⟨r1, r2, r3, r4, r5, r6⟩ := hr
  refine ⟨r1, by rw [z]; exact r2, ?_, r4, r5, fun j hj => ?_⟩
  · show ag_sum _ H1 = h.2.1
    rw [← r3]
    refine ag_sum_same fun q => ?_
    by_cases hq : q = ag_sz G + k
    · subst hq; exact hs
    · rw [oq q hq]
  · show va_at _ _ (_, ag_e G (va_up h.2.2 (k + 2) c (j + 2))) H1
    by_cases hjk : j = k
    · subst hjk
      rw [va_up_self]
      exact hc
    · rw [va_up_ne _ _ (show j + 2 ≠ k + 2 by omega)]
      exact (r6 j hj).kept (oq _ (show ag_sz G + j ≠ ag_sz G + k by omega))
def ag_nw (h : ag_H) (n : Nat) (c : ag_C) : ag_H := (h.1 + 1, h.2.1 + n, va_up h.2.2 h.1 c)
theorem ag_R.push {P : ag_P} {G : ag_G} {h : ag_H} {H H1 : Heap} {c : ag_C} {cell : Cell} {n : Nat} (hr : ag_R P G h H) (e : H1[H.size]? = some cell) (z : H1.size = H.size + 1) (o : ∀ q : Nat, q < H.size → H1[q]? = H[q]?) (hn : cell.slots.size = n)
    (h1 : h.1 + 1 ≤ ag_cN G) (h2 : h.2.1 + n ≤ ag_cS G) (hc : va_at (ag_D G) P.2.1 (H.size, ag_e G c) H1) : ag_R P G (ag_nw h n c) H1 := by
  obtain ⟨r1, r2, r3, r4, r5, r6⟩ := hr
  have hsz : H.size = ag_sz G + (h.1 - 2) := by omega
  refine ⟨show 2 ≤ h.1 + 1 by omega, show H1.size + 2 = _ + (h.1 + 1) by omega, ?_, h1, h2, fun j hj => ?_⟩
  · show ag_sum _ H1 = h.2.1 + n
    rw [ag_sum_push (by omega) e z o, r3, hn]
  · show va_at _ _ (_, ag_e G (va_up h.2.2 h.1 c (j + 2))) H1
    have hj' : j + 2 < h.1 + 1 := hj
    by_cases hjk : j + 2 = h.1
    · rw [hjk, va_up_self, show ag_sz G + j = H.size by omega]
      exact hc
    · rw [va_up_ne _ _ hjk]
      exact (r6 j (by omega)).kept (o _ (show ag_sz G + j < H.size by omega))
theorem ag_R.addr {P : ag_P} {G : ag_G} {h : ag_H} {H : Heap} (hr : ag_R P G h H) : ag_ad G h.1 = H.size := by
  obtain ⟨r1, r2, -⟩ := hr
  obtain ⟨k, hk⟩ : ∃ k, h.1 = k + 2 := ⟨h.1 - 2, by omega⟩
  rw [hk]
  show ag_sz G + k = H.size
  omega
theorem ag_R.ns {P : ag_P} {G : ag_G} {h : ag_H} {H : Heap} (hr : ag_R P G h H) : ∀ (q : Nat) (cell : Cell), ag_sz G ≤ q → H[q]? = some cell → cell.vm.isStatics = false := by
  intro q cell hq hc
  have hlt : q < H.size := (Array.getElem?_eq_some_iff.mp hc).1
  obtain ⟨r1, r2, -, -, -, r6⟩ := hr
  obtain ⟨k, rfl⟩ : ∃ k, q = ag_sz G + k := ⟨q - ag_sz G, by omega⟩
  have hat := r6 k (by omega)
  cases hcc : h.2.2 (k + 2) with
  | inl x =>
    obtain ⟨t, n, f⟩ := x
    rw [hcc] at hat
    have hat' : H[ag_sz G + k]? = some (vp_cell _ (ag_x G (n, f))) := hat
    rw [hc] at hat'
    cases hat'
    obtain f | f | f | f | f := f <;> rfl
  | inr x =>
    obtain ⟨ci, fs⟩ := x
    rw [hcc] at hat
    obtain ⟨r, -, cell', q1, -, q3, -⟩ := hat
    have q1' : H[ag_sz G + k]? = some cell' := q1
    rw [hc] at q1'
    cases q1'
    rw [q3]
    rfl
theorem ag_S_put {G : ag_G} {H0 H H1 : Heap} {locs : List Loc} {k i : Nat} (h : va_S (ag_A G) H0 H locs) (z : H1.size = H.size) (oq : ∀ q : Nat, q ≠ ag_sz G + k → H1[q]? = H[q]?) : va_S (ag_A G) H0 H1 (locs ++ [⟨ag_sz G + k, i⟩]) :=
  h.put z oq (Nat.le_add_right _ _)
theorem ag_S_push {G : ag_G} {H0 H H1 : Heap} {locs : List Loc} (h : va_S (ag_A G) H0 H locs) (z : H1.size = H.size + 1) (o : ∀ q : Nat, q < H.size → H1[q]? = H[q]?) : va_S (ag_A G) H0 H1 locs :=
  ⟨Nat.le_trans h.1 (by omega), fun x h1 h2 => (o x (Nat.lt_of_lt_of_le h1 h.1)).trans (h.2.1 x h1 h2), h.2.2⟩
section AGT
variable {p : Program} {l : Launch} {e : Env} {R : Room} {s : State} {m : MethodId} {args : Array Value} {below : List Frame} {meth : Method} {c : Code} {T : State} {H : Heap} {locs : List Loc} {cells slots : Nat} {Q : State → Prop}
/-- the counts of a walk are those of its heap: they may always be made exact -/
theorem ag_tight (X : Stand p l e R s m args below meth c T locs cells slots) {z n s0 n0 s1 : Nat} (h0 : s.heap.size + 2 = z + n0) (h1 : ag_sum z s.heap = s0) (hz : z ≤ s.heap.size) (h2 : T.heap.size + 2 = z + n) (h3 : ag_sum z T.heap = s1) :
    Stand p l e R s m args below meth c T locs (n - n0) (s1 - s0) := by
  have hs := X.same
  obtain ⟨a1, a2, a3, a4, a5, a6⟩ := hs
  have hsum : ag_sum z T.heap = ag_sum z s.heap + ag_sum s.heap.size T.heap := by
    refine ag_sum_split hz rfl fun q hq => ?_
    obtain ⟨c', g1, -, g3, -⟩ := a6 q s.heap[q] (Array.getElem?_eq_getElem hq)
    have g1' : T.heap[q]? = some c' := g1
    rw [g1', Array.getElem?_eq_getElem hq]
    simp [g3]
  have hle : s.heap.size ≤ T.heap.size := a2
  have hle2 : ag_sum s.heap.size T.heap ≤ s1 - s0 := by omega
  have hle3 : T.heap.size ≤ s.heap.size + (n - n0) := by omega
  exact { X with same := ⟨a1, a2, hle3, a4, hle2, a6⟩ }
theorem ag_tightW {g : JFrame} {z n s0 n0 s1 : Nat} (h0 : s.heap.size + 2 = z + n0) (h1 : ag_sum z s.heap = s0) (hz : z ≤ s.heap.size) (h2 : H.size + 2 = z + n) (h3 : ag_sum z H = s1)
    (kk : W p l e R s m args below meth c H locs (n - n0) (s1 - s0) Q g) : W p l e R s m args below meth c H locs cells slots Q g :=
  fun T hT X => kk T hT (ag_tight X h0 h1 hz (by rw [hT]; exact h2) (by rw [hT]; exact h3))
end AGT
/-- a word that stays true as the tables warm -/
def ag_sb (w : Cond) : Prop := (∀ (A B : Array Value) (U : State), w.before A U = true → w.before B U = true) ∧ ∀ (s U : State), s.WarmedH U.vm → va_Nw w s → va_Nw w U
def ag_Cl (P : ag_P) : Prop := ∀ (ci : Nat) (q : vw_C), P.2.1[ci]? = some q → (∀ w ∈ u_ws q.1 q.2.1 q.2.2, w ∈ P.1) ∧ (∃ ty : Nat → FieldType, ∀ k, k < q.2.2 → parseFieldDescriptor (q.2.1 k).2.2.1 = some (ty k)) ∧ (∀ a, a < q.2.2 → ∀ b, b < q.2.2 → a ≠ b → (q.2.1 a).2.1 ≠ (q.2.1 b).2.1)
/-- a static that holds a reference or null, in a cell that the run doesn't change -/
def ag_ls (C n d : String) (A : Nat → Prop) (U : State) : Prop := (Cond.laysStatic C n d).before #[] U = true ∧ va_Zq C n d A U U.heap
theorem ag_ls.to {C n d : String} {A : Nat → Prop} {s U : State} (h : ag_ls C n d A s) (hvm : s.vm.Alike U.vm) (hk : ∀ q : Nat, q < s.heap.size → ¬ A q → U.heap[q]? = s.heap[q]?) : ag_ls C n d A U := by
  refine ⟨?_, (h.2.moved hvm).kept hk⟩
  obtain ⟨c, k, i, f, a, cell, hc, hi, hst, ha, hcell, hs, hcls, hlt, hty⟩ := Cond.laysStatic_spec h.1
  have hA : ¬ A a := by
    rcases h.2 with hz | ⟨t, hz⟩
    all_goals
      obtain ⟨cf, kf, fi, f', a', cell', g1, g2, g3, g4, g5, g6, g7, g8⟩ := hz
      cases hi.symm.trans g1
      cases ha.symm.trans g4
      exact g8
  obtain ⟨k', hi', hek⟩ := State.fieldFound?_setVm hvm hi
  exact Cond.laysStatic_of (s := U) (by rw [hvm.findClass]; exact hc) hi' hst (by rw [hek]; exact ha) (by rw [hk a (Array.getElem?_eq_some_iff.mp hcell).1 hA]; exact hcell) hs hcls hlt (by rw [hek]; exact hty)
/-- the library's empty array; the two statics that a new exception looks at -/
def ag_St (G : ag_G) (U : State) : Prop := va_Z "java/util/ArrayList" "DEFAULTCAPACITY_EMPTY_ELEMENTDATA" "[Ljava/lang/Object;" (.ref (ag_e0 G)) (ag_A G) U U.heap ∧ va_T (.object "java/lang/Object") (ag_e0 G) 0 (fun _ => .null) (ag_A G) U U.heap ∧
  ag_ls "java/lang/Throwable" "UNASSIGNED_STACK" "[Ljava/lang/StackTraceElement;" (ag_A G) U ∧ ag_ls "java/lang/Throwable" "SUPPRESSED_SENTINEL" "Ljava/util/List;" (ag_A G) U
/-- what is known at every state of the run -/
def ag_Kn (P : ag_P) (G : ag_G) (U : State) : Prop :=
  va_K (ag_D G) P.2.1 (ag_tys G) U ∧ (∀ w ∈ P.1, va_Nw w U) ∧ ((∀ w ∈ P.1, ag_sb w) ∧ ag_Cl P ∧ (ag_tys G).map Prod.snd = P.2.2) ∧ va_X (ag_b G) (ag_Ln G) (ag_xs G) U U.heap ∧ ((ag_b G < ag_sz G ∧ ∃ mi : Nat, va_Mi "[Ljava/lang/Object;" mi U) ∧ ag_sz G ≤ U.heap.size) ∧ ag_St G U
theorem ag_Kn.hts {P : ag_P} {G : ag_G} {s : State} (h : ag_Kn P G s) {args : Array Value} : ∀ w ∈ P.1, w.before args s = true := fun w hw => (h.2.2.1.1 w hw).1 #[] args s (h.2.1 w hw)
theorem ag_Kn.to {P : ag_P} {G : ag_G} {s U : State} {locs : List Loc} (h : ag_Kn P G s) (hW : s.WarmedH U.vm) (hS : va_S (ag_A G) s.heap U.heap locs) : ag_Kn P G U := by
  obtain ⟨h1, h2, h3, h4, h5, h6⟩ := h
  have h51 := h5.1.1
  have h52 := h5.2
  have hb : ¬ ag_A G (ag_b G) := fun q => by have q' : ag_sz G ≤ ag_b G := q; omega
  refine ⟨h1.moved hW.alike, fun w hw => (h3.1 w hw).2 s U hW (h2 w hw), h3, (h4.moved hW.alike).kept (hS.2.1 _ (by omega) hb), ⟨⟨h5.1.1, h5.1.2.imp fun _ h => h.moved hW.alike⟩, Nat.le_trans h5.2 hS.1⟩, ?_, ?_, h6.2.2.1.to hW.alike (fun q hq hA => hS.2.1 q hq hA), h6.2.2.2.to hW.alike (fun q hq hA => hS.2.1 q hq hA)⟩
  · exact (h6.1.moved hW.alike).kept (fun q hq hA => hS.2.1 q hq hA)
  · exact (h6.2.1.moved hW.alike).kept (fun q hq hA => hS.2.1 q hq hA)
