/-! ### New objects, arrays, returns -/
section AGW
variable {p : Program} {l : Launch} {e : Env} {R : Room} {s : State} {m : MethodId} {args : Array Value} {below : List Frame} {meth : Method} {c : Code} {H : Heap} {locs : List Loc} {cells slots : Nat} {Q : State → Prop}
theorem ag_leW {g : JFrame} {z s0 s1 : Nat} (h1 : ag_sum z s.heap = s0) (hz : z ≤ s.heap.size) (h3 : ag_sum z H = s1) (kk : s0 ≤ s1 → W p l e R s m args below meth c H locs cells slots Q g) : W p l e R s m args below meth c H locs cells slots Q g := by
  intro T hT X
  have hsum : ag_sum z T.heap = ag_sum z s.heap + ag_sum s.heap.size T.heap := by
    obtain ⟨a1, a2, a3, a4, a5, a6⟩ := X.same
    refine ag_sum_split hz rfl fun q hq => ?_
    obtain ⟨c', g1, -, g3, -⟩ := a6 q s.heap[q] (Array.getElem?_eq_getElem hq)
    have g1' : T.heap[q]? = some c' := g1
    rw [g1', Array.getElem?_eq_getElem hq]
    simp [g3]
  exact kk (by rw [← h3, ← h1, ← hT, hsum]; omega) T hT X
end AGW
theorem ag_tyAt {P : ag_P} {G : ag_G} {s : State} (hK : ag_Kn P G s) {t : Nat} {ty : FieldType} (ht : P.2.2[t]? = some ty) : ∃ cA : ClassId, (ag_tys G)[t]? = some (cA, ty) ∧ (((ag_tys G)[t]?).getD (0, .int)).1 = cA := by
  have h := hK.2.2.1.2.2
  rw [← h, List.getElem?_map] at ht
  cases hq : (ag_tys G)[t]? with
  | none => rw [hq] at ht; cases ht
  | some q =>
    rw [hq] at ht
    obtain ⟨cA, ty'⟩ := q
    have : ty' = ty := Option.some.inj ht
    subst this
    exact ⟨cA, rfl, rfl⟩
theorem ag_dv (G : ag_G) (ty : FieldType) : ag_v G (defaultValue ty) = defaultValue ty := by cases ty <;> rfl
theorem ag_vpV (G : ag_G) (fs : List Value) (j : Nat) : vp_V (fs.map (ag_v G)) j = ag_v G (vp_V fs j) := by
  unfold vp_V
  simp only [List.getD_eq_getElem?_getD, List.getElem?_map]
  cases fs[j]? <;> rfl
section AGN
variable {P : ag_P} {l : Launch} {G : ag_G} {M : ag_M} {d : Nat} {Z : ag_Z} {pc : Nat} {lv : ag_L} {st : List Value} {h : ag_H}
theorem ag_newo {ix ci n N : Nat} {C : String} {T : u_T} {fs : List Value} (hd : decode M.2.1 pc = .ok (.new ix, 3)) (hw : Cond.classLink M.1.cls ix C ∈ P.1) (hi : Cond.instantiable C n ∈ P.1) (hn : Cond.initialized C ∈ P.1) (hc : P.2.1[ci]? = some (C, T, N))
    (hfs : ∀ j, j < N → ∃ ty, parseFieldDescriptor (T j).2.2.1 = some ty ∧ defaultValue ty = vp_V fs j) (hb1 : h.1 + 1 ≤ ag_cN G) (hb2 : h.2.1 + n ≤ ag_cS G) (k : ag_ev P l G M d Z (pc + 3) lv (.ref h.1 :: st) (ag_nw h n (.inr (ci, fs)))) : ag_ev P l G M d Z pc lv st h := by
  intro p e s m args below meth c ls H locs n0 s0 X h0 h1 hl hr hS
  have hK := X.2.2.2.2.2.2.2
  have hts := hK.hts (args := args)
  obtain ⟨hin', ⟨ty0, hty⟩, -⟩ := hK.2.2.1.2.1 ci _ hc
  have hKn := hK.1.1 ci _ hc
  have hz := hK.2.2.2.2.1.2
  have hle := hS.1
  refine ag_leW h1 hz hr.2.2.1 fun hs01 => ?_
  have hr2 := hr.2.1
  refine W.newcK X.1 X.2.1 X.2.2.2.2.2.1 (hts _ hw) (hts _ hi) (hts _ hn) rfl hd (show h.1 - n0 + 1 ≤ ag_cN G - n0 by omega) (show h.2.1 - s0 + n ≤ ag_cS G - s0 by omega) hKn.2.1 rfl fun H1 kC hkC e1 z1 o1 => ?_
  obtain ⟨c1, k1, hc1, hk1, -, -, -, hsz⟩ := Cond.instantiable_spec (hts _ hi)
  cases hKn.2.1.symm.trans hc1
  cases hkC.symm.trans hk1
  have hob : va_at (ag_D G) P.2.1 (H.size, ag_e G (.inr (ci, fs))) H1 := by
    refine ⟨_, hc, (u_born ty0 hts hin' hKn hkC e1 hty).to fun j hj => ?_⟩
    obtain ⟨ty, g1, g2⟩ := hfs j hj
    have : ty0 j = ty := Option.some.inj ((hty j hj).symm.trans g1)
    rw [this, ag_vpV, ← g2, ag_dv]
  have hr1 := hr.push e1 z1 o1 (show (blank _ kC).slots.size = n by simp [blank, hsz]) hb1 hb2 hob
  refine ag_tightW h0 h1 hz hr1.2.1 hr1.2.2.1 ?_
  have hk := k p e s m args below meth c ls H1 locs n0 s0 X h0 h1 hl hr1 (ag_S_push hS z1 o1)
  have hav : ag_v G (.ref h.1) = .ref H.size := by show Value.ref (ag_ad G h.1) = _; rw [hr.addr]
  rw [List.map_cons, hav] at hk
  exact hk
theorem ag_newar {at_ : ArrayType} {ty : FieldType} {t N : Nat} {x : Int32} {a0 : vp_A} (hd : decode M.2.1 pc = .ok (.newarray at_, 2)) (hw : Cond.arrayClass (newarray.typeOf at_) ∈ P.1) (hty : newarray.typeOf at_ = ty) (ht : P.2.2[t]? = some ty) (hno : ∀ C, ty ≠ .object C)
    (ha : ∀ cA : ClassId, vp_cell cA (ag_x G a0) = arrV cA N (fun _ => defaultValue ty)) (hx : ¬ x < 0) (hN : x.toNatClampNeg = N) (hby : N * componentBytes ty ≤ 536870912) (hb1 : h.1 + 1 ≤ ag_cN G) (hb2 : h.2.1 + N ≤ ag_cS G) (k : ag_ev P l G M d Z (pc + 2) lv (.ref h.1 :: st) (ag_nw h N (.inl (t, a0)))) : ag_ev P l G M d Z pc lv (.int x :: st) h := by
  intro p e s m args below meth c ls H locs n0 s0 X h0 h1 hl hr hS
  have hK := X.2.2.2.2.2.2.2
  have hts := hK.hts (args := args)
  have hz := hK.2.2.2.2.1.2
  have hle := hS.1
  obtain ⟨cA, hcA, hgd⟩ := ag_tyAt hK ht
  have hRA := (hK.1.2 t _ hcA).2
  refine ag_leW h1 hz hr.2.2.1 fun hs01 => ?_
  have hr2 := hr.2.1
  subst hty
  refine va_newaK X.1 X.2.1 (hts _ hw) rfl hd rfl hx hN hby (show h.1 - n0 + 1 ≤ ag_cN G - n0 by omega) (show h.2.1 - s0 + N ≤ ag_cS G - s0 by omega) rfl fun H1 cA' e1 z1 o1 hAr hNm => ?_
  have hcc : cA' = cA := by
    cases at_ <;> exact Option.some.inj (hNm.symm.trans hRA)
  subst hcc
  have hob : va_at (ag_D G) P.2.1 (H.size, ag_e G (.inl (t, a0))) H1 := by
    show H1[H.size]? = some (vp_cell (((ag_tys G)[t]?).getD (0, .int)).1 (ag_x G a0))
    rw [hgd, ha, e1]
  have hr1 := hr.push e1 z1 o1 (arrV_size _ _ _) hb1 hb2 hob
  refine ag_tightW h0 h1 hz hr1.2.1 hr1.2.2.1 ?_
  have hk := k p e s m args below meth c ls H1 locs n0 s0 X h0 h1 hl hr1 (ag_S_push hS z1 o1)
  have hav : ag_v G (.ref h.1) = .ref H.size := by show Value.ref (ag_ad G h.1) = _; rw [hr.addr]
  rw [List.map_cons, hav] at hk
  exact hk
theorem ag_anew {ix t N : Nat} {C : String} {x : Int32} (hd : decode M.2.1 pc = .ok (.anewarray ix, 3)) (hw : Cond.classLink M.1.cls ix C ∈ P.1) (ho : Cond.arrayOver (.object C) ∈ P.1) (ht : P.2.2[t]? = some (.object C)) (hx : ¬ x < 0) (hN : x.toNatClampNeg = N) (hby : N * 4 ≤ 536870912)
    (hb1 : h.1 + 1 ≤ ag_cN G) (hb2 : h.2.1 + N ≤ ag_cS G) (k : ag_ev P l G M d Z (pc + 3) lv (.ref h.1 :: st) (ag_nw h N (.inl (t, N, .inr (.inr (.inr (.inr (fun _ => none)))))))) : ag_ev P l G M d Z pc lv (.int x :: st) h := by
  intro p e s m args below meth c ls H locs n0 s0 X h0 h1 hl hr hS
  have hK := X.2.2.2.2.2.2.2
  have hts := hK.hts (args := args)
  have hz := hK.2.2.2.2.1.2
  have hle := hS.1
  obtain ⟨cA, hcA, hgd⟩ := ag_tyAt hK ht
  obtain ⟨kA, comp, k1, k2, k3, k4⟩ := (hK.1.2 t _ hcA).2
  refine ag_leW h1 hz hr.2.2.1 fun hs01 => ?_
  have hr2 := hr.2.1
  subst hN
  refine W.anew X.1 X.2.1 X.2.2.2.2.2.1 (hts _ hw) (hts _ ho) rfl hd rfl hx hby (show h.1 - n0 + 1 ≤ ag_cN G - n0 by omega) (show h.2.1 - s0 + x.toNatClampNeg ≤ ag_cS G - s0 by omega) fun cA' kA' comp' f1 f2 f3 f4 => ?_
  have hcc : cA' = cA := Option.some.inj (f1.symm.trans k4)
  subst hcc
  generalize hH1 : H.push ({ cls := cA', slots := Array.replicate x.toNatClampNeg .null, vm := .none } : Cell) = H1
  have z1 : H1.size = H.size + 1 := by rw [← hH1, Array.size_push]
  have e1 : H1[H.size]? = some (arrV cA' x.toNatClampNeg (fun _ => .null)) := by rw [← hH1, Array.getElem?_push_size, ← arrV_new]
  have o1 : ∀ q : Nat, q < H.size → H1[q]? = H[q]? := fun q hq => by rw [← hH1, Array.getElem?_push, if_neg (Nat.ne_of_lt hq)]
  have hob : va_at (ag_D G) P.2.1 (H.size, ag_e G (.inl (t, x.toNatClampNeg, .inr (.inr (.inr (.inr (fun _ => none))))))) H1 := by
    show H1[H.size]? = some (vp_cell (((ag_tys G)[t]?).getD (0, .int)).1 _)
    rw [hgd, e1]
    rfl
  have hr1 := hr.push e1 z1 o1 (arrV_size _ _ _) hb1 hb2 hob
  refine ag_tightW h0 h1 hz hr1.2.1 hr1.2.2.1 ?_
  have hk := k p e s m args below meth c ls H1 locs n0 s0 X h0 h1 hl hr1 (ag_S_push hS z1 o1)
  have hav : ag_v G (.ref h.1) = .ref H.size := by show Value.ref (ag_ad G h.1) = _; rw [hr.addr]
  rw [List.map_cons, hav] at hk
  exact hk
theorem ag_alen {t : Nat} {ty : FieldType} {x : vp_A} {v : Value} (hd : decode M.2.1 pc = .ok (.arraylength, 1)) (ht : P.2.2[t]? = some ty) (ha : ag_at h v = some (.inl (t, x))) (k : ag_ev P l G M d Z (pc + 1) lv (.int (Int32.ofNat x.1) :: st) h) : ag_ev P l G M d Z pc lv (v :: st) h := by
  intro p e s m args below meth c ls H locs n0 s0 X h0 h1 hl hr hS
  obtain ⟨j, rfl, g1, g2⟩ := ag_at_some ha
  have hK := X.2.2.2.2.2.2.2
  obtain ⟨cA, hcA, hgd⟩ := ag_tyAt hK ht
  have hat := hr.2.2.2.2.2 j g1
  rw [g2] at hat
  have hat' : va_at (ag_D G) P.2.1 (ag_sz G + j, .inl (cA, ag_x G x)) H := by rw [← hgd]; exact hat
  have hx : (ag_x G x).1 = x.1 := by obtain ⟨n, f | f | f | f | f⟩ := x <;> rfl
  exact va_alen (D := ag_D G) (cl := P.2.1) X.1 X.2.1 hK.1 (ag_one hat') 0 t rfl hcA (by rw [hx]) hd (k p e s m args below meth c ls H locs n0 s0 X h0 h1 hl hr hS)
theorem ag_alen0 (hd : decode M.2.1 pc = .ok (.arraylength, 1)) (k : ag_ev P l G M d Z (pc + 1) lv (.int (Int32.ofNat (ag_Ln G)) :: st) h) : ag_ev P l G M d Z pc lv (.ref 0 :: st) h := by
  intro p e s m args below meth c ls H locs n0 s0 X h0 h1 hl hr hS
  have hK := X.2.2.2.2.2.2.2
  exact va_slen X.1 X.2.1 hK.2.2.2.1 (Nat.lt_of_lt_of_le hK.2.2.2.2.1.1.1 hK.2.2.2.2.1.2) (fun q => Nat.not_le.mpr hK.2.2.2.2.1.1.1 q) hS hd (k p e s m args below meth c ls H locs n0 s0 X h0 h1 hl hr hS)
theorem ag_alen1 (hd : decode M.2.1 pc = .ok (.arraylength, 1)) (k : ag_ev P l G M d Z (pc + 1) lv (.int 0 :: st) h) : ag_ev P l G M d Z pc lv (.ref 1 :: st) h := by
  intro p e s m args below meth c ls H locs n0 s0 X h0 h1 hl hr hS
  have hK := X.2.2.2.2.2.2.2
  exact va_tlen X.1 X.2.1 hK.2.2.2.2.2.2.1 hS rfl hd (k p e s m args below meth c ls H locs n0 s0 X h0 h1 hl hr hS)
theorem ag_sld {i : Int32} (hd : decode M.2.1 pc = .ok (.iaload, 1)) (hi : vp_in i (ag_Ln G)) (k : ag_ev P l G M d Z (pc + 1) lv (.int (ag_xs G i.toNatClampNeg) :: st) h) : ag_ev P l G M d Z pc lv (.int i :: .ref 0 :: st) h := by
  intro p e s m args below meth c ls H locs n0 s0 X h0 h1 hl hr hS
  have hK := X.2.2.2.2.2.2.2
  exact va_sld X.1 X.2.1 hK.2.2.2.1 (Nat.lt_of_lt_of_le hK.2.2.2.2.1.1.1 hK.2.2.2.2.1.2) (fun q => Nat.not_le.mpr hK.2.2.2.2.1.1.1 q) hS hi hd (k p e s m args below meth c ls H locs n0 s0 X h0 h1 hl hr hS)
theorem ag_iald {t n : Nat} {f : Nat → Int32} {i : Int32} {v : Value} (hd : decode M.2.1 pc = .ok (.iaload, 1)) (ht : P.2.2[t]? = some .int) (ha : ag_at h v = some (.inl (t, n, .inl f))) (hi : vp_in i n) (k : ag_ev P l G M d Z (pc + 1) lv (.int (f i.toNatClampNeg) :: st) h) : ag_ev P l G M d Z pc lv (.int i :: v :: st) h := by
  intro p e s m args below meth c ls H locs n0 s0 X h0 h1 hl hr hS
  obtain ⟨j, rfl, g1, g2⟩ := ag_at_some ha
  have hK := X.2.2.2.2.2.2.2
  obtain ⟨cA, hcA, hgd⟩ := ag_tyAt hK ht
  have hat := hr.2.2.2.2.2 j g1
  rw [g2] at hat
  have hat' : va_at (ag_D G) P.2.1 (ag_sz G + j, .inl (cA, n, .inl f)) H := by rw [← hgd]; exact hat
  exact va_iald (D := ag_D G) (cl := P.2.1) X.1 X.2.1 hK.1 (ag_one hat') 0 t rfl hcA hi hd (k p e s m args below meth c ls H locs n0 s0 X h0 h1 hl hr hS)
theorem ag_zald {t n : Nat} {f : Nat → Int32} {i : Int32} {v : Value} (hd : decode M.2.1 pc = .ok (.baload, 1)) (ht : P.2.2[t]? = some .boolean) (ha : ag_at h v = some (.inl (t, n, .inl f))) (hi : vp_in i n) (k : ag_ev P l G M d Z (pc + 1) lv (.int (f i.toNatClampNeg) :: st) h) : ag_ev P l G M d Z pc lv (.int i :: v :: st) h := by
  intro p e s m args below meth c ls H locs n0 s0 X h0 h1 hl hr hS
  obtain ⟨j, rfl, g1, g2⟩ := ag_at_some ha
  have hK := X.2.2.2.2.2.2.2
  obtain ⟨cA, hcA, hgd⟩ := ag_tyAt hK ht
  have hat := hr.2.2.2.2.2 j g1
  rw [g2] at hat
  have hat' : va_at (ag_D G) P.2.1 (ag_sz G + j, .inl (cA, n, .inl f)) H := by rw [← hgd]; exact hat
  exact va_zald (D := ag_D G) (cl := P.2.1) X.1 X.2.1 hK.1 (ag_one hat') 0 t rfl hcA hi hd (k p e s m args below meth c ls H locs n0 s0 X h0 h1 hl hr hS)
theorem ag_cald {t n : Nat} {f : Nat → Int32} {i : Int32} {v : Value} (hd : decode M.2.1 pc = .ok (.caload, 1)) (ht : P.2.2[t]? = some .char) (ha : ag_at h v = some (.inl (t, n, .inl f))) (hi : vp_in i n) (k : ag_ev P l G M d Z (pc + 1) lv (.int (f i.toNatClampNeg) :: st) h) : ag_ev P l G M d Z pc lv (.int i :: v :: st) h := by
  intro p e s m args below meth c ls H locs n0 s0 X h0 h1 hl hr hS
  obtain ⟨j, rfl, g1, g2⟩ := ag_at_some ha
  have hK := X.2.2.2.2.2.2.2
  obtain ⟨cA, hcA, hgd⟩ := ag_tyAt hK ht
  have hat := hr.2.2.2.2.2 j g1
  rw [g2] at hat
  have hat' : va_at (ag_D G) P.2.1 (ag_sz G + j, .inl (cA, n, .inl f)) H := by rw [← hgd]; exact hat
  exact va_cald (D := ag_D G) (cl := P.2.1) X.1 X.2.1 hK.1 (ag_one hat') 0 t rfl hcA hi hd (k p e s m args below meth c ls H locs n0 s0 X h0 h1 hl hr hS)
theorem ag_lald {t n : Nat} {f : Nat → Int64} {i : Int32} {v : Value} (hd : decode M.2.1 pc = .ok (.laload, 1)) (ht : P.2.2[t]? = some .long) (ha : ag_at h v = some (.inl (t, n, .inr (.inl f)))) (hi : vp_in i n) (k : ag_ev P l G M d Z (pc + 1) lv (.long (f i.toNatClampNeg) :: st) h) : ag_ev P l G M d Z pc lv (.int i :: v :: st) h := by
  intro p e s m args below meth c ls H locs n0 s0 X h0 h1 hl hr hS
  obtain ⟨j, rfl, g1, g2⟩ := ag_at_some ha
  have hK := X.2.2.2.2.2.2.2
  obtain ⟨cA, hcA, hgd⟩ := ag_tyAt hK ht
  have hat := hr.2.2.2.2.2 j g1
  rw [g2] at hat
  have hat' : va_at (ag_D G) P.2.1 (ag_sz G + j, .inl (cA, n, .inr (.inl f))) H := by rw [← hgd]; exact hat
  exact va_lald (D := ag_D G) (cl := P.2.1) X.1 X.2.1 hK.1 (ag_one hat') 0 t rfl hcA hi hd (k p e s m args below meth c ls H locs n0 s0 X h0 h1 hl hr hS)
theorem ag_iast {t n : Nat} {f : Nat → Int32} {i : Int32} {x : Int32} {a : Nat} (hd : decode M.2.1 pc = .ok (.iastore, 1)) (ht : P.2.2[t]? = some .int) (ha : ag_at h (.ref a) = some (.inl (t, n, .inl f))) (hi : vp_in i n) (k : ag_ev P l G M d Z (pc + 1) lv st (ag_up h a (.inl (t, n, .inl (upd f i.toNatClampNeg x))))) : ag_ev P l G M d Z pc lv (.int x :: .int i :: .ref a :: st) h := by
  intro p e s m args below meth c ls H locs n0 s0 X h0 h1 hl hr hS
  obtain ⟨j, hj, g1, g2⟩ := ag_at_some ha
  cases hj
  have hK := X.2.2.2.2.2.2.2
  obtain ⟨cA, hcA, hgd⟩ := ag_tyAt hK ht
  have hat := hr.2.2.2.2.2 j g1
  rw [g2] at hat
  have hat' : H[ag_sz G + j]? = some (vp_cell cA (n, .inl f)) := by rw [← hgd]; exact hat
  refine W.iast X.1 X.2.1 hat' ((hK.1.2 t _ hcA).1 n (fun j => .int (f j))) (fun q => by cases q) (by show ¬ (i < 0 ∨ (arrV _ _ _).slots.size ≤ _); rw [arrV_size]; exact hi) rfl rfl hd fun H1 e1 z oq => ?_
  have hob : va_at (ag_D G) P.2.1 (ag_sz G + j, ag_e G (.inl (t, n, .inl (upd f i.toNatClampNeg x)))) H1 := by
    show H1[ag_sz G + j]? = some (vp_cell (((ag_tys G)[t]?).getD (0, .int)).1 (n, .inl (upd f i.toNatClampNeg x)))
    rw [hgd, e1, vp_cell_i, vp_cell_i, arrV_store]
    congr 2
    funext q
    by_cases hq : q = i.toNatClampNeg
    · subst hq
      simp [updV, upd, vp_updL, vp_nar]
      try rfl
    · simp [updV, upd, vp_updL, hq]
  exact k p e s m args below meth c ls H1 _ n0 s0 X h0 h1 hl (hr.put g1 z oq (by rw [e1, hat']; simp [Cell.setSlot]) hob) (ag_S_put hS z oq)
theorem ag_zast {t n : Nat} {f : Nat → Int32} {i : Int32} {x : Int32} {a : Nat} (hd : decode M.2.1 pc = .ok (.bastore, 1)) (ht : P.2.2[t]? = some .boolean) (ha : ag_at h (.ref a) = some (.inl (t, n, .inl f))) (hi : vp_in i n) (k : ag_ev P l G M d Z (pc + 1) lv st (ag_up h a (.inl (t, n, .inl (upd f i.toNatClampNeg (vp_nar .boolean x)))))) : ag_ev P l G M d Z pc lv (.int x :: .int i :: .ref a :: st) h := by
  intro p e s m args below meth c ls H locs n0 s0 X h0 h1 hl hr hS
  obtain ⟨j, hj, g1, g2⟩ := ag_at_some ha
  cases hj
  have hK := X.2.2.2.2.2.2.2
  obtain ⟨cA, hcA, hgd⟩ := ag_tyAt hK ht
  have hat := hr.2.2.2.2.2 j g1
  rw [g2] at hat
  have hat' : H[ag_sz G + j]? = some (vp_cell cA (n, .inl f)) := by rw [← hgd]; exact hat
  refine W.zast X.1 X.2.1 hat' ((hK.1.2 t _ hcA).1 n (fun j => .int (f j))) (fun q => by cases q) (by show ¬ (i < 0 ∨ (arrV _ _ _).slots.size ≤ _); rw [arrV_size]; exact hi) rfl rfl hd fun H1 e1 z oq => ?_
  have hob : va_at (ag_D G) P.2.1 (ag_sz G + j, ag_e G (.inl (t, n, .inl (upd f i.toNatClampNeg (vp_nar .boolean x))))) H1 := by
    show H1[ag_sz G + j]? = some (vp_cell (((ag_tys G)[t]?).getD (0, .int)).1 (n, .inl (upd f i.toNatClampNeg (vp_nar .boolean x))))
    rw [hgd, e1, vp_cell_i, vp_cell_i, arrV_store]
    congr 2
    funext q
    by_cases hq : q = i.toNatClampNeg
    · subst hq
      simp [updV, upd, vp_updL, vp_nar]
      try rfl
    · simp [updV, upd, vp_updL, hq]
  exact k p e s m args below meth c ls H1 _ n0 s0 X h0 h1 hl (hr.put g1 z oq (by rw [e1, hat']; simp [Cell.setSlot]) hob) (ag_S_put hS z oq)
theorem ag_cast {t n : Nat} {f : Nat → Int32} {i : Int32} {x : Int32} {a : Nat} (hd : decode M.2.1 pc = .ok (.castore, 1)) (ht : P.2.2[t]? = some .char) (ha : ag_at h (.ref a) = some (.inl (t, n, .inl f))) (hi : vp_in i n) (k : ag_ev P l G M d Z (pc + 1) lv st (ag_up h a (.inl (t, n, .inl (upd f i.toNatClampNeg (vp_nar .char x)))))) : ag_ev P l G M d Z pc lv (.int x :: .int i :: .ref a :: st) h := by
  intro p e s m args below meth c ls H locs n0 s0 X h0 h1 hl hr hS
  obtain ⟨j, hj, g1, g2⟩ := ag_at_some ha
  cases hj
  have hK := X.2.2.2.2.2.2.2
  obtain ⟨cA, hcA, hgd⟩ := ag_tyAt hK ht
  have hat := hr.2.2.2.2.2 j g1
  rw [g2] at hat
  have hat' : H[ag_sz G + j]? = some (vp_cell cA (n, .inl f)) := by rw [← hgd]; exact hat
  refine W.cast X.1 X.2.1 hat' ((hK.1.2 t _ hcA).1 n (fun j => .int (f j))) (fun q => by cases q) (by show ¬ (i < 0 ∨ (arrV _ _ _).slots.size ≤ _); rw [arrV_size]; exact hi) rfl rfl hd fun H1 e1 z oq => ?_
  have hob : va_at (ag_D G) P.2.1 (ag_sz G + j, ag_e G (.inl (t, n, .inl (upd f i.toNatClampNeg (vp_nar .char x))))) H1 := by
    show H1[ag_sz G + j]? = some (vp_cell (((ag_tys G)[t]?).getD (0, .int)).1 (n, .inl (upd f i.toNatClampNeg (vp_nar .char x))))
    rw [hgd, e1, vp_cell_i, vp_cell_i, arrV_store]
    congr 2
    funext q
    by_cases hq : q = i.toNatClampNeg
    · subst hq
      simp [updV, upd, vp_updL, vp_nar]
      try rfl
    · simp [updV, upd, vp_updL, hq]
  exact k p e s m args below meth c ls H1 _ n0 s0 X h0 h1 hl (hr.put g1 z oq (by rw [e1, hat']; simp [Cell.setSlot]) hob) (ag_S_put hS z oq)
theorem ag_last {t n : Nat} {f : Nat → Int64} {i : Int32} {x : Int64} {a : Nat} (hd : decode M.2.1 pc = .ok (.lastore, 1)) (ht : P.2.2[t]? = some .long) (ha : ag_at h (.ref a) = some (.inl (t, n, .inr (.inl f)))) (hi : vp_in i n) (k : ag_ev P l G M d Z (pc + 1) lv st (ag_up h a (.inl (t, n, .inr (.inl (vp_updL f i.toNatClampNeg x)))))) : ag_ev P l G M d Z pc lv (.long x :: .int i :: .ref a :: st) h := by
  intro p e s m args below meth c ls H locs n0 s0 X h0 h1 hl hr hS
  obtain ⟨j, hj, g1, g2⟩ := ag_at_some ha
  cases hj
  have hK := X.2.2.2.2.2.2.2
  obtain ⟨cA, hcA, hgd⟩ := ag_tyAt hK ht
  have hat := hr.2.2.2.2.2 j g1
  rw [g2] at hat
  have hat' : H[ag_sz G + j]? = some (vp_cell cA (n, .inr (.inl f))) := by rw [← hgd]; exact hat
  refine W.last X.1 X.2.1 hat' ((hK.1.2 t _ hcA).1 n (fun j => .long (f j))) (fun q => by cases q) (by show ¬ (i < 0 ∨ (arrV _ _ _).slots.size ≤ _); rw [arrV_size]; exact hi) rfl rfl hd fun H1 e1 z oq => ?_
  have hob : va_at (ag_D G) P.2.1 (ag_sz G + j, ag_e G (.inl (t, n, .inr (.inl (vp_updL f i.toNatClampNeg x))))) H1 := by
    show H1[ag_sz G + j]? = some (vp_cell (((ag_tys G)[t]?).getD (0, .int)).1 (n, .inr (.inl (vp_updL f i.toNatClampNeg x))))
    rw [hgd, e1, vp_cell_l, vp_cell_l, arrV_store]
    congr 2
    funext q
    by_cases hq : q = i.toNatClampNeg
    · subst hq
      simp [updV, upd, vp_updL, vp_nar]
      try rfl
    · simp [updV, upd, vp_updL, hq]
  exact k p e s m args below meth c ls H1 _ n0 s0 X h0 h1 hl (hr.put g1 z oq (by rw [e1, hat']; simp [Cell.setSlot]) hob) (ag_S_put hS z oq)
def ag_rf (r : Option Nat) : Value := match r with
  | some a => .ref a
  | none => .null
theorem ag_v_rf (G : ag_G) (r : Option Nat) : ag_v G (ag_rf r) = va_rf (r.map (ag_ad G)) := by cases r <;> rfl
theorem ag_aald {t n : Nat} {C : String} {f : Nat → Option Nat} {i : Int32} {v : Value} (hd : decode M.2.1 pc = .ok (.aaload, 1)) (ht : P.2.2[t]? = some (.object C)) (ha : ag_at h v = some (.inl (t, n, .inr (.inr (.inr (.inr f)))))) (hi : vp_in i n) (k : ag_ev P l G M d Z (pc + 1) lv (ag_rf (f i.toNatClampNeg) :: st) h) : ag_ev P l G M d Z pc lv (.int i :: v :: st) h := by
  intro p e s m args below meth c ls H locs n0 s0 X h0 h1 hl hr hS
  obtain ⟨j, rfl, g1, g2⟩ := ag_at_some ha
  have hK := X.2.2.2.2.2.2.2
  obtain ⟨cA, hcA, hgd⟩ := ag_tyAt hK ht
  have hat := hr.2.2.2.2.2 j g1
  rw [g2] at hat
  have hat' : va_at (ag_D G) P.2.1 (ag_sz G + j, .inl (cA, n, .inr (.inr (.inr (.inr (fun j => (f j).map (ag_ad G))))))) H := by rw [← hgd]; exact hat
  have hk := k p e s m args below meth c ls H locs n0 s0 X h0 h1 hl hr hS
  rw [List.map_cons, ag_v_rf] at hk
  exact va_aldq (D := ag_D G) (cl := P.2.1) X.1 X.2.1 hK.1 (ag_one hat') 0 t rfl hcA hi hd hk
end AGN
