/-! ### System.arraycopy between arrays of objects -/
section AGCR
variable {P : ag_P} {l : Launch} {G : ag_G} {M : ag_M} {d : Nat} {Z : ag_Z} {pc : Nat} {lv : ag_L} {st : List Value} {h : ag_H}
theorem ag_copyr {ix a0 a n0 n1 t : Nat} {E : String} {f g : Nat → Option Nat} {sp dp n : Int32} (hd : decode M.2.1 pc = .ok (.invokestatic ix, 3)) (hlk : Cond.methodLink M.1.cls ix arraycopyName ∈ P.1) (hnat : Cond.native arraycopyName ∈ P.1) (hst : Cond.static arraycopyName ∈ P.1) (hini : Cond.initialized "java/lang/System" ∈ P.1) (ht : P.2.2[t]? = some (.object E))
    (ha0 : ag_at h (.ref a0) = some (.inl (t, n0, .inr (.inr (.inr (.inr f)))))) (ha : ag_at h (.ref a) = some (.inl (t, n1, .inr (.inr (.inr (.inr g)))))) (h1 : ¬ sp < 0) (h2 : ¬ dp < 0) (h3 : ¬ n < 0) (h4 : sp.toNatClampNeg + n.toNatClampNeg ≤ n0) (h5 : dp.toNatClampNeg + n.toNatClampNeg ≤ n1) (hel : ∀ i : Nat, i < n.toNatClampNeg → ∀ b, f (sp.toNatClampNeg + i) = some b → ∃ ci fs q, ag_at h (.ref b) = some (.inr (ci, fs)) ∧ P.2.1[ci]? = some q ∧ Cond.castable q.1 E ∈ P.1) (hw : (st.map fun v => v.category).sum ≤ 8)
    (k : ag_ev P l G M d Z (pc + 3) lv st (ag_up h a (.inl (t, n1, .inr (.inr (.inr (.inr (va_cpy f g sp.toNatClampNeg dp.toNatClampNeg n.toNatClampNeg)))))))) : ag_ev P l G M d Z pc lv (.int n :: .int dp :: .ref a :: .int sp :: .ref a0 :: st) h := by
  intro p e s m args below meth c ls H locs m0 s0 X g0 g1 hlv hr hS
  obtain ⟨j0, hj0, q1, q2⟩ := ag_at_some ha0
  cases hj0
  obtain ⟨j, hj, q3, q4⟩ := ag_at_some ha
  cases hj
  have hK := X.2.2.2.2.2.2.2
  have hts := hK.hts (args := args)
  obtain ⟨cA, hcA, hgd⟩ := ag_tyAt hK ht
  have hat := hr.2.2.2.2.2 j0 q1
  rw [q2] at hat
  have hc0 : H[ag_sz G + j0]? = some (vp_cell cA (n0, .inr (.inr (.inr (.inr (fun j => (f j).map (ag_ad G))))))) := by rw [← hgd]; exact hat
  have hbt := hr.2.2.2.2.2 j q3
  rw [q4] at hbt
  have hc1 : H[ag_sz G + j]? = some (vp_cell cA (n1, .inr (.inr (.inr (.inr (fun j => (g j).map (ag_ad G))))))) := by rw [← hgd]; exact hbt
  obtain ⟨-, k0, hk0, cm0, hkk0⟩ := (hK.1.2 t _ hcA).1 n0 (fun j => va_rf ((f j).map (ag_ad G)))
  have hloc : 2 * 0 + ((st.map (ag_v G)).map fun v => v.category).sum + (nativeFrameWords "java/lang/System" "arraycopy" 5 + 11) ≤ 60 * d + 200 := by
    have e7 : nativeFrameWords "java/lang/System" "arraycopy" 5 = 7 := by decide +kernel
    rw [ag_catsum, e7]
    omega
  intro T hT XS
  obtain ⟨vm', X', step⟩ := XS.arraycopy X.1 X.2.2.2.2.2.1 (hts _ hlk) (hts _ hnat) (hts _ hst) (hts _ hini) (src := ag_sz G + j0) (dst := ag_sz G + j) (cs := vp_cell cA (n0, .inr (.inr (.inr (.inr (fun j => (f j).map (ag_ad G))))))) (cd := vp_cell cA (n1, .inr (.inr (.inr (.inr (fun j => (g j).map (ag_ad G))))))) (srcPos := sp) (destPos := dp) (n := n) (by rw [hT]; exact hc0) (by rw [hT]; exact hc1)
    (fun _ h => by cases h) (fun _ h => by cases h) (fun h => by cases h) (fun h => by cases h) hk0 hk0 hkk0 hkk0 rfl h1 h2 h3
    (by rw [ag_nn sp h1, ag_nn n h3]; show ¬ _ > ((arrV cA n0 (fun j => va_rf ((f j).map (ag_ad G)))).slots.size : Int); rw [arrV_size]; omega)
    (by rw [ag_nn dp h2, ag_nn n h3]; show ¬ _ > ((arrV cA n1 (fun j => va_rf ((g j).map (ag_ad G)))).slots.size : Int); rw [arrV_size]; omega)
    (fun vm₁ hal i hi => by
      have e : (vp_cell cA (n0, .inr (.inr (.inr (.inr (fun j => (f j).map (ag_ad G))))))).slots.getD (sp.toNatClampNeg + i) .null = va_rf ((f (sp.toNatClampNeg + i)).map (ag_ad G)) := by
        show (arrV cA n0 (fun j => va_rf ((f j).map (ag_ad G)))).slots.getD _ _ = _
        rw [Array.getD_eq_getD_getElem?, arrV_read _ _ (by omega)]
        rfl
      rw [e]
      cases hy : f (sp.toNatClampNeg + i) with
      | none => exact ⟨rfl, trivial⟩
      | some y =>
        obtain ⟨ci, fs, q, hb, hc, hca⟩ := hel i hi y hy
        obtain ⟨cellV, c1, c2, c3⟩ := ag_recv hK hr hc hb
        obtain ⟨kA, comp, r1, r2, r3, -⟩ := (hK.1.2 t _ hcA).2
        cases hk0.symm.trans r1
        cases hkk0.symm.trans r2
        obtain ⟨x1, x2, f1, f2, f3⟩ := Cond.castable_spec (hts _ hca)
        cases c3.symm.trans f1
        cases r3.symm.trans f2
        obtain ⟨kC, hkC, -⟩ := Vm.findClass_spec c3
        obtain ⟨kE, hkE, -⟩ := Vm.findClass_spec r3
        obtain ⟨kC', hkC', -⟩ := hal.2.2 _ _ hkC
        obtain ⟨kE', hkE', -⟩ := hal.2.2 _ _ hkE
        refine ⟨rfl, cellV, (show T.heap[ag_ad G y]? = some cellV by rw [hT]; exact c1), (fun q h => by rw [h] at c2; cases c2), ⟨kC', hkC'⟩, ⟨kE', hkE'⟩, ?_⟩
        show vm₁.assignable _ _ = true
        rw [hal.assignable]
        exact f3)
    (g := F0 m pc ls ((.int n :: .int dp :: .ref (j + 2) :: .int sp :: .ref (j0 + 2) :: st).map (ag_v G))) rfl (by rw [X.2.2.1]; exact hlv.1) (rest := st.map (ag_v G)) rfl (by rw [X.2.1]; exact hd) (show 1 ≤ d + 8 by omega) hloc
  have e1 : copied (vp_cell cA (n0, .inr (.inr (.inr (.inr (fun j => (f j).map (ag_ad G))))))) (vp_cell cA (n1, .inr (.inr (.inr (.inr (fun j => (g j).map (ag_ad G))))))) sp dp n = vp_cell cA (n1, .inr (.inr (.inr (.inr (fun q => (va_cpy f g sp.toNatClampNeg dp.toNatClampNeg n.toNatClampNeg q).map (ag_ad G)))))) := by
    rw [vp_cell_q, vp_cell_q, vp_cell_q]
    exact va_copied (fun z : Option Nat => va_rf (z.map (ag_ad G))) cA cA f g h4
  rw [e1] at X' step
  have hl : ag_sz G + j < H.size := (Array.getElem?_eq_some_iff.mp hc1).1
  generalize hcell : vp_cell cA (n1, .inr (.inr (.inr (.inr (fun q => (va_cpy f g sp.toNatClampNeg dp.toNatClampNeg n.toNatClampNeg q).map (ag_ad G)))))) = cell at X' step
  have hheap : ((T.setVm vm').setCell (ag_sz G + j) cell).heap = H.setIfInBounds (ag_sz G + j) cell := by rw [← hT]; rfl
  have oq : ∀ q : Nat, q ≠ ag_sz G + j → (H.setIfInBounds (ag_sz G + j) cell)[q]? = H[q]? := fun q hq => by simp [Array.getElem?_setIfInBounds, Ne.symm hq]
  have e2 : (H.setIfInBounds (ag_sz G + j) cell)[ag_sz G + j]? = some cell := by simp [Array.getElem?_setIfInBounds, hl]
  have hz : (H.setIfInBounds (ag_sz G + j) cell).size = H.size := by simp
  have hob : va_at (ag_D G) P.2.1 (ag_sz G + j, ag_e G (.inl (t, n1, .inr (.inr (.inr (.inr (va_cpy f g sp.toNatClampNeg dp.toNatClampNeg n.toNatClampNeg))))))) (H.setIfInBounds (ag_sz G + j) cell) := by
    show _ = some (vp_cell (((ag_tys G)[t]?).getD (0, .int)).1 _)
    rw [hgd, e2, ← hcell]
    rfl
  have hsz : ∀ z : Nat → Option Nat, (vp_cell cA (n1, .inr (.inr (.inr (.inr z))))).slots.size = n1 := fun z => by show (arrV cA n1 _).slots.size = n1; rw [arrV_size]
  obtain ⟨t', a1, b1⟩ := k p e s m args below meth c ls _ _ m0 s0 X g0 g1 hlv (hr.put q3 hz oq (by rw [e2, hc1, ← hcell]; exact congrArg some ((hsz _).trans (hsz _).symm)) hob) ⟨by rw [hz]; exact hS.1, fun q g1 g2 => by
      rw [oq q (fun e => g2 (by rw [e]; exact Nat.le_add_right _ _))]
      exact hS.2.1 q g1 g2, fun q hq => by
      rcases List.mem_append.mp hq with h | h
      · exact hS.2.2 q h
      · obtain ⟨z, -, hz⟩ := List.mem_map.mp h
        rw [← hz]
        exact Nat.le_add_right _ _⟩ _ hheap X'
  exact ⟨t', step t' a1, b1⟩
end AGCR
/-! ### Arrays.copyOf of objects: a longer array with the old elements -/
def ag_el (h : ag_H) (r : Option Nat) : Bool := match r with
  | none => true
  | some b => match ag_at h (.ref b) with
    | some (.inr (ci, _)) => ag_cok 4 ci
    | _ => false
theorem ag_el_ok {h : ag_H} {b : Nat} (e : ag_el h (some b) = true) : ∃ ci fs, ag_at h (.ref b) = some (.inr (ci, fs)) ∧ ag_cok 4 ci = true := by
  unfold ag_el at e
  simp only at e
  split at e
  · next ci fs q => exact ⟨ci, fs, q, e⟩
  · cases e
def fn_Ar_copyOf (N : Nat) (C : Nat × Nat) (p0 : Option Nat) (p1 : Int32) (h : ag_H) : Option ((Option Nat) × ag_H) := match ag_at h (ag_rf p0) with
  | some (.inl (t, n0, .inr (.inr (.inr (.inr f))))) => if t = 4 ∧ (¬ p1 < 0 ∧ p1.toNatClampNeg * 4 ≤ 536870912 ∧ h.1 + 1 ≤ C.1 ∧ h.2.1 + p1.toNatClampNeg ≤ C.2) ∧ n0 ≤ p1.toNatClampNeg ∧ (List.range n0).all (fun i => ag_el h (f i)) = true then some (some h.1, ag_nw h p1.toNatClampNeg (.inl (4, p1.toNatClampNeg, .inr (.inr (.inr (.inr (va_cpy f (fun _ => none) 0 0 n0))))))) else none
  | _ => none
section AGGR
variable {l : Launch} {G : ag_G} {d : Nat} {C : Nat × Nat} {h : ag_H}
theorem ag_at_nw {q n : Nat} {c c' : ag_C} (e : ag_at h (.ref q) = some c) : ag_at (ag_nw h n c') (.ref q) = some c := by
  obtain ⟨j, hj, q1, q2⟩ := ag_at_some e
  cases hj
  rw [md_atE (h := ag_nw h n c') (by omega) (show j + 2 < h.1 + 1 by omega), ← q2]
  exact congrArg some (if_neg (by omega))
theorem ag_at_nw0 {n : Nat} {c' : ag_C} (hh : 2 ≤ h.1) : ag_at (ag_nw h n c') (.ref h.1) = some c' := by
  rw [md_atE (h := ag_nw h n c') hh (show h.1 < h.1 + 1 by omega)]
  exact congrArg some (if_pos rfl)
theorem ag_upnw (n : Nat) (x y : ag_C) : ag_up (ag_nw h n x) h.1 y = ag_nw h n y := by
  refine Prod.ext rfl (Prod.ext rfl (funext fun q => ?_))
  show (if q = h.1 then y else if q = h.1 then x else h.2.2 q) = (if q = h.1 then y else h.2.2 q)
  by_cases e : q = h.1
  · rw [if_pos e, if_pos e]
  · rw [if_neg e, if_neg e, if_neg e]
theorem w_grow6 (hC : ag_cN G = C.1 ∧ ag_cS G = C.2) (hh : 2 ≤ h.1) {a0 n0 : Nat} {n : Int32} {f : Nat → Option Nat} (ha : ag_at h (.ref a0) = some (.inl (4, n0, .inr (.inr (.inr (.inr f)))))) (hq : ¬ n < 0 ∧ n.toNatClampNeg * 4 ≤ 536870912 ∧ h.1 + 1 ≤ C.1 ∧ h.2.1 + n.toNatClampNeg ≤ C.2) (hn : n0 ≤ n.toNatClampNeg) (hel : (List.range n0).all (fun i => ag_el h (f i)) = true) : ag_ev gc_P l G m_Ar_copyOf2 d (ag_ret gc_P G (fun v h' => v = some (.ref h.1) ∧ h' = ag_nw h n.toNatClampNeg (.inl (4, n.toNatClampNeg, .inr (.inr (.inr (.inr (va_cpy f (fun _ => none) 0 0 n0)))))))) 6 [(0, .ref a0), (1, .int n)] [] h := by
  have hc : ag_C1 [(0, .ref a0), (1, .int n)] := ag_c1 rfl (ag_c1 rfl ag_c0)
  have hle : ag_le (ag_nw h n.toNatClampNeg (.inl (4, n.toNatClampNeg, .inr (.inr (.inr (.inr (fun _ => none))))))) (some a0) = some (Int32.ofNat n0) := by
    have e := ag_at_nw (n := n.toNatClampNeg) (c' := .inl (4, n.toNatClampNeg, .inr (.inr (.inr (.inr (fun _ => none)))))) ha
    obtain ⟨j, hj, q1, q2⟩ := ag_at_some ha
    cases hj
    unfold ag_le
    have e' : ag_at (ag_nw h n.toNatClampNeg (.inl (4, n.toNatClampNeg, .inr (.inr (.inr (.inr (fun _ => none))))))) (ag_rf (some (j + 2))) = _ := e
    simp only [e']
    rfl
  have hn31 : n.toNatClampNeg < 2147483648 := by omega
  have hmin : (if n < Int32.ofNat n0 then n else Int32.ofNat n0) = Int32.ofNat n0 := by
    refine if_neg ?_
    rw [Int32.lt_iff_toInt_lt, Int32.toInt_ofNat_of_lt (by simpa using (show n0 < 2147483648 by omega)), ag_nn n hq.1]
    omega
  have hnc : (Int32.ofNat n0).toNatClampNeg = n0 := by
    show (Int32.ofNat n0).toInt.toNat = n0
    rw [Int32.toInt_ofNat_of_lt (by simpa using (show n0 < 2147483648 by omega))]
    rfl
  have hz : ¬ Int32.ofNat n0 < 0 := by
    rw [Int32.lt_iff_toInt_lt, Int32.toInt_ofNat_of_lt (by simpa using (show n0 < 2147483648 by omega))]
    show ¬ (n0 : Int) < 0
    omega
  refine ag_iload_n d_Ar_copyOf2_6 rfl ?_
  refine gc_anew (t := 4) hC d_Ar_copyOf2_7 gw_419 gw_418 rfl hq ?_
  refine ag_goto (tgt := 24) d_Ar_copyOf2_10 rfl ?_
  refine gc_astore0_n (r := (some (h.1))) d_Ar_copyOf2_24 (by decide) hc ?_
  refine gc_aload_n (r := some a0) d_Ar_copyOf2_25 rfl ?_
  refine ag_iconst d_Ar_copyOf2_26 ?_
  refine gc_aload_n (r := some h.1) d_Ar_copyOf2_27 rfl ?_
  refine ag_iconst d_Ar_copyOf2_28 ?_
  refine gc_aload_n (r := some a0) d_Ar_copyOf2_29 rfl ?_
  refine gc_alen (r := some a0) d_Ar_copyOf2_30 hle ?_
  refine ag_iload_n d_Ar_copyOf2_31 rfl ?_
  refine ag_min d_Ar_copyOf2_32 gw_420 gw_421 gw_13 gw_min (ag_w9 (ag_v1 rfl (ag_v1 (ag_cat_rf _) (ag_v1 rfl (ag_v1 (ag_cat_rf _) ag_v0)))) (Nat.le_of_ble_eq_true rfl)) ?_
  rw [hmin]
  refine ag_copyr (t := 4) (E := "java/lang/Object") (a0 := a0) (a := h.1) d_Ar_copyOf2_35 gw_423 gw_425 gw_424 gw_15 rfl (ag_at_nw ha) (ag_at_nw0 hh) (by decide) (by decide) hz (by rw [hnc]; show 0 + n0 ≤ n0; omega) (by rw [hnc]; show 0 + n0 ≤ _; omega) ?_ (Nat.le_of_ble_eq_true rfl) ?_
  · intro i hi b hb
    rw [hnc] at hi
    have hb : f (0 + i) = some b := hb
    rw [Nat.zero_add] at hb
    have := List.all_eq_true.mp hel i (List.mem_range.mpr hi)
    rw [hb] at this
    obtain ⟨ci, fs, e1, e2⟩ := ag_el_ok this
    obtain ⟨E, q, g1, g2, g3⟩ := ag_cokW e2
    cases g1
    exact ⟨ci, fs, q, ag_at_nw e1, g2, g3⟩
  · rw [ag_upnw, hnc]
    refine gc_aload_n (r := some h.1) d_Ar_copyOf2_38 rfl ?_
    exact gc_aret (r := some h.1) d_Ar_copyOf2_39 rfl (Or.inr ⟨_, rfl⟩) ⟨rfl, rfl⟩
end AGGR
/-! ### Arrays.copyOf: the class object is only compared -/
section AGMI
variable {l : Launch} {G : ag_G} {d : Nat} {C : Nat × Nat} {h : ag_H} {Q : Option Value → ag_H → Prop}
abbrev ag_PcM (G : ag_G) (vs : List Value) (mi : Nat) (h : ag_H) : Array Value → State → Prop := va_Pc vs (fun U => (ag_Kn gc_P G U ∧ ag_R gc_P G h U.heap) ∧ va_Mi "[Ljava/lang/Object;" mi U)
theorem ag_blindM (G : ag_G) (vs : List Value) (mi : Nat) (h : ag_H) : FrameBlind (ag_PcM G vs mi h) := by
  intro a U g mk q
  obtain ⟨q1, ⟨q2, q3⟩, q4⟩ := q
  exact ⟨q1, ⟨q2.to (U := U.calling g mk a) (locs := []) (State.WarmedH.refl U) va_S.rf, q3⟩, q4⟩
theorem ag_metM {a0 mi : Nat} {n : Int32} (k : ag_ev gc_P l G m_Ar_copyOf2 d (ag_ret gc_P G Q) 6 [(0, .ref a0), (1, .int n)] [] h) : Met l m_Ar_copyOf2.1 [Cond.code m_Ar_copyOf2.1 m_Ar_copyOf2.2.1 m_Ar_copyOf2.2.2.1 m_Ar_copyOf2.2.2.2.1] (ag_rm G d h.1 h.2.1) (ag_PcM G [.ref (ag_ad G a0), .int n, .ref mi] mi h) (ag_Qc gc_P G Q) (ag_cN G - h.1) (ag_cS G - h.2.1) (ag_A G) := by
  refine Met.ofW (cc := m_Ar_copyOf2.2.1) (maxL := m_Ar_copyOf2.2.2.1) (ret := m_Ar_copyOf2.2.2.2.1) (by decide) rfl ?_
  intro p e s m args below meth c s₁ B hml hv
  obtain ⟨rfl, ⟨hK, hR⟩, hMi⟩ := hv
  have htab : c.exceptionTable.toList.map (fun x => (x.startPc, x.endPc, x.handlerPc, x.catchType)) = m_Ar_copyOf2.2.2.2.2 := by
    have hno := B.noHandlers (atoms_spec (ws := [Cond.code m_Ar_copyOf2.1 m_Ar_copyOf2.2.1 m_Ar_copyOf2.2.2.1 m_Ar_copyOf2.2.2.2.1]) B.pre _ (List.mem_singleton.mpr rfl))
    rw [Array.isEmpty_iff.mp hno]
    rfl
  have X : ag_X gc_P G m_Ar_copyOf2 p s m meth c := ⟨B.exec, B.bytes, hml, B.returns, ⟨B.notSynchronized, htab, hR.ns⟩, findClass_of_methodNamed B.named, (name_of_methodNamed B.named B.method).1, hK⟩
  have hl := lv_entry [Value.ref (ag_ad G a0), Value.int n, Value.ref mi] (n := m_Ar_copyOf2.2.2.1) (Nat.le_of_ble_eq_true rfl)
  rw [lg_entry_eq]
  generalize (lg_sl [Value.ref (ag_ad G a0), Value.int n, Value.ref mi] ++ List.replicate (m_Ar_copyOf2.2.2.1 - (lg_sl [Value.ref (ag_ad G a0), Value.int n, Value.ref mi]).length) Slot.unset).toArray = ls at hl ⊢
  have hl' : lv_has ls 4 [(0, Value.ref (ag_ad G a0)), (1, Value.int n), (2, Value.ref mi)] := hl
  have hk := k p e s m [Value.ref (ag_ad G a0), Value.int n, Value.ref mi].toArray below meth c ls s.heap [] h.1 h.2.1 X hR.2.1 hR.2.2.1 ⟨hl'.1, hl'.2.1, fun q hq => hl'.2.2 q (by
    rcases List.mem_cons.mp hq with rfl | hq
    · exact List.mem_cons_self
    · rcases List.mem_cons.mp hq with rfl | hq
      · exact List.mem_cons_of_mem _ List.mem_cons_self
      · cases hq)⟩ hR va_S.rf
  rw [Nat.sub_self, Nat.sub_self] at hk
  refine lv_aload_n (k := 2) (x := mi) X.1 X.2.1 d_Ar_copyOf2_0 rfl (hl'.2.2 (2, _) (List.mem_cons_of_mem _ (List.mem_cons_of_mem _ List.mem_cons_self))) ?_
  refine va_ldcM X.1 X.2.1 X.2.2.2.2.2.1 (hK.hts _ gw_417) hMi d_Ar_copyOf2_1 ?_
  exact lv_acmp_ne (rx := some mi) (ry := some mi) (tgt := 13) X.1 X.2.1 d_Ar_copyOf2_3 rfl (fun q => absurd rfl q) (fun _ => hk)
/-- the call with the class object -/
theorem ag_callM {a0 mi : Nat} {n : Int32} {p : Program} {e : Env} {s : State} {m : MethodId} {args : Array Value} {below : List Frame} {meth : Method} {c : Code} {ls : Array Slot} {H : Heap} {locs : List Loc} {n0 s0 : Nat} {lv : ag_L} {Z : ag_Z}
    (X : ag_X gc_P G m_Ar_copyOf p s m meth c) (h0 : s.heap.size + 2 = ag_sz G + n0) (h1 : ag_sum (ag_sz G) s.heap = s0) (hlv : lv_has ls m_Ar_copyOf.2.2.1 (ag_lm G lv)) (hr : ag_R gc_P G h H) (hS : va_S (ag_A G) s.heap H locs) (hMi : va_Mi "[Ljava/lang/Object;" mi s)
    (hM : Met l m_Ar_copyOf2.1 [Cond.code m_Ar_copyOf2.1 m_Ar_copyOf2.2.1 m_Ar_copyOf2.2.2.1 m_Ar_copyOf2.2.2.2.1] (ag_rm G d h.1 h.2.1) (ag_PcM G [.ref (ag_ad G a0), .int n, .ref mi] mi h) (ag_Qc gc_P G Q) (ag_cN G - h.1) (ag_cS G - h.2.1) (ag_A G))
    (k : ∀ v h', Q v h' → ag_ev gc_P l G m_Ar_copyOf (d + 1) Z (6 + 3) lv (v.toList ++ []) h') : W p l e (ag_rm G (d + 1) n0 s0) s m args below meth c H locs (h.1 - n0) (h.2.1 - s0) (Z (ag_rm G (d + 1) n0 s0) below args s) (F0 m 6 ls [.ref mi, .int n, .ref (ag_ad G a0)]) := by
  obtain ⟨g1, g2, g3, g4, g5, g6⟩ := ml_Ar_300
  have hK := X.2.2.2.2.2.2.2
  have hts := hK.hts (args := args)
  have hz := hK.2.2.2.2.1.2
  have hle := hS.1
  refine ag_leW h1 hz hr.2.2.1 fun hs01 => ?_
  have hr2 := hr.2.1
  have hr4 := hr.2.2.2
  have hfr : (ag_rm G d h.1 h.2.1).frames + 1 ≤ (ag_rm G (d + 1) n0 s0).frames := by show d + 8 + 1 ≤ d + 1 + 8; omega
  have hlo : 8 + (m_Ar_copyOf2.2.2.1 + 11) + (ag_rm G d h.1 h.2.1).locals ≤ (ag_rm G (d + 1) n0 s0).locals := by show 8 + (4 + 11) + (60 * d + 200) ≤ 60 * (d + 1) + 200; omega
  have hf : h.1 - n0 + (ag_cN G - h.1) ≤ (ag_rm G (d + 1) n0 s0).cells ∧ h.2.1 - s0 + (ag_cS G - h.2.1) ≤ (ag_rm G (d + 1) n0 s0).slots := by
    refine ⟨?_, ?_⟩
    · show _ ≤ ag_cN G - n0; omega
    · show _ ≤ ag_cS G - s0; omega
  have hp : PreS s H (ag_PcM G [.ref (ag_ad G a0), .int n, .ref mi] mi h) [.ref (ag_ad G a0), .int n, .ref mi] := ⟨ag_blindM G _ mi h, fun U hU hW => ⟨rfl, ⟨hK.to hW (by rw [hU]; exact hS), by rw [hU]; exact hr⟩, hMi.moved hW.alike⟩⟩
  have hwt := lv_room (m := m) (pc := 6) (ls := ls) (rest := [.ref mi, .int n, .ref (ag_ad G a0)]) (st := []) (by decide)
  have go : va_Run p l e (ag_rm G (d + 1) n0 s0) s m args below meth c H locs (h.1 - n0) (h.2.1 - s0) (ag_cN G - h.1) (ag_cS G - h.2.1) (F0 m 6 ls [.ref mi, .int n, .ref (ag_ad G a0)]) [] (ag_Qc gc_P G Q [Value.ref (ag_ad G a0), .int n, .ref mi].toArray) (ag_A G) := by
    rcases g1 with g1 | ⟨host, g1⟩
    · exact va_runS (Ts := gc_P.1) (n := 3) ⟨X.1, X.2.1, X.2.2.1, X.2.2.2.2.2.1, hts⟩ hM ⟨⟨rfl, rfl, hfr, hlo, ag_words hK g3, List.mem_singleton.mpr rfl, hts _ g3, hts _ g2, g4, ag_lenOf g5, hts _ g1⟩, hts _ gw_415⟩ hp rfl rfl hlv.1 rfl hwt d_Ar_copyOf_6 hf
    · exact va_runSN (Ts := gc_P.1) (n := 3) ⟨X.1, X.2.1, X.2.2.1, X.2.2.2.2.2.1, hts⟩ hM ⟨⟨⟨rfl, rfl, hfr, hlo, ag_words hK g3, List.mem_singleton.mpr rfl⟩, hts _ g3, hts _ g2, g4, ag_lenOf g5, hts _ g1⟩, hts _ gw_415, trivial⟩ hp rfl rfl hlv.1 rfl hwt d_Ar_copyOf_6 hf
  refine ag_after go hS fun v h' H1 locs1 hq hR hS1 => ?_
  refine ag_tightW h0 h1 hz hR.2.1 hR.2.2.1 ?_
  have := k v h' hq p e s m args below meth c ls H1 locs1 n0 s0 X h0 h1 hlv hR hS1
  rw [List.append_nil] at this ⊢
  rw [show (v.map (ag_v G)).toList = v.toList.map (ag_v G) by cases v <;> rfl]
  exact this
theorem w_Ar_copyOf {N : Nat} (hC : ag_cN G = C.1 ∧ ag_cS G = C.2) (hH : 0 + 1 ≤ d) {p0 : Option Nat} {p1 : Int32} {res : (Option Nat) × ag_H} (hyp : fn_Ar_copyOf N C p0 p1 h = some res) : ag_Met gc_P l G m_Ar_copyOf d [ag_rf (p0), .int (p1)] h (fun v h' => v = some (ag_rf res.1) ∧ h' = res.2) := by
  obtain ⟨d, rfl, hG⟩ := md_dd hH
  unfold fn_Ar_copyOf at hyp
  split at hyp
  · next t n0 f e1 =>
    split at hyp
    · next q =>
      obtain ⟨rfl, hq, hn, hel⟩ := q
      obtain ⟨a0, rfl, ha⟩ := ag_at_rf e1
      cases hyp
      have hh : 2 ≤ h.1 := by
        obtain ⟨j, hj, q1, q2⟩ := ag_at_some ha
        omega
      have hev : ag_ev gc_P l G m_Ar_copyOf (d + 1) (ag_ret gc_P G (fun v h' => v = some (ag_rf (some h.1)) ∧ h' = ag_nw h p1.toNatClampNeg (.inl (4, p1.toNatClampNeg, .inr (.inr (.inr (.inr (va_cpy f (fun _ => none) 0 0 n0)))))))) 0 [(0, ag_rf (some a0)), (1, .int p1)] [] h := by
        refine gc_aload_n (r := some a0) d_Ar_copyOf_0 rfl ?_
        refine ag_iload_n d_Ar_copyOf_1 rfl ?_
        refine gc_aload_n (r := some a0) d_Ar_copyOf_2 rfl ?_
        intro p e s m args below meth c ls H locs m0 s0 X g0 g1 hlv hr hS
        have hK := X.2.2.2.2.2.2.2
        have hts := hK.hts (args := args)
        obtain ⟨mi, hmi⟩ := hK.2.2.2.2.1.1.2
        obtain ⟨j, hj, q1, q2⟩ := ag_at_some ha
        cases hj
        obtain ⟨cA, hcA, hgd⟩ := ag_tyAt hK (t := 4) (ty := .object "java/lang/Object") rfl
        have hat := hr.2.2.2.2.2 j q1
        rw [q2] at hat
        have hc0 : H[ag_sz G + j]? = some (vp_cell cA (n0, .inr (.inr (.inr (.inr (fun j => (f j).map (ag_ad G))))))) := by rw [← hgd]; exact hat
        have hnm : s.vm.findClass "[Ljava/lang/Object;" = some cA := va_nmO (hK.1.2 4 _ hcA).2 (by decide)
        refine va_getC (own := "java/util/Arrays") (C := "[Ljava/lang/Object;") (mi := mi) (a := ag_sz G + j) (rest := [.int p1, .ref (ag_sz G + j)]) X.1 X.2.1 (X.2.2.1.trans hlv.1.symm) X.2.2.2.2.2.1 (hts _ gw_394) (hts _ gw_1306) (hts _ gw_1305) (hts _ gw_395) (hts _ gw_413) hmi ⟨_, hc0, rfl, hnm⟩ (show 1 ≤ d + 1 + 8 by omega) (show 2 + 14 ≤ 60 * (d + 1) + 200 by omega) d_Ar_copyOf_3 ?_
        refine ag_callM (a0 := j + 2) (Q := fun v h' => v = some (.ref h.1) ∧ h' = ag_nw h p1.toNatClampNeg (.inl (4, p1.toNatClampNeg, .inr (.inr (.inr (.inr (va_cpy f (fun _ => none) 0 0 n0))))))) X g0 g1 hlv hr hS hmi (ag_metM (w_grow6 hC hh ha hq hn hel)) ?_
        rintro v h' ⟨rfl, rfl⟩
        exact gc_aret (r := some h.1) d_Ar_copyOf_9 rfl (Or.inr ⟨_, rfl⟩) ⟨rfl, rfl⟩
      exact ag_met0 (by decide) rfl (ag_v1 (ag_cat_rf _) (ag_v1 rfl ag_v0)) (Nat.le_of_ble_eq_true rfl) (ag_dr (ag_d1 rfl (ag_d1 rfl ag_d0)) hev)
    · cases hyp
  · cases hyp
end AGMI
