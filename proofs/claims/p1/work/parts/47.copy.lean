/-! ### System.arraycopy between arrays of ints (to be moved before 49.g00 when the functions use it) -/
section AGCP
variable {P : ag_P} {l : Launch} {G : ag_G} {M : ag_M} {d : Nat} {Z : ag_Z} {pc : Nat} {lv : ag_L} {st : List Value} {h : ag_H}
theorem ag_nn (z : Int32) (hz : ¬ z < 0) : z.toInt = (z.toNatClampNeg : Int) := by
  have hz0 : (0 : Int) ≤ z.toInt := by
    have := Int32.not_lt.mp hz
    simpa using Int32.le_iff_toInt_le.mp this
  show z.toInt = ((z.toInt.toNat : Nat) : Int)
  omega
theorem ag_copyi {ix a0 a n0 n1 : Nat} {f g : Nat → Int32} {sp dp n : Int32} (hd : decode M.2.1 pc = .ok (.invokestatic ix, 3)) (hlk : Cond.methodLink M.1.cls ix arraycopyName ∈ P.1) (hnat : Cond.native arraycopyName ∈ P.1) (hst : Cond.static arraycopyName ∈ P.1) (hini : Cond.initialized "java/lang/System" ∈ P.1) (ht : P.2.2[0]? = some .int)
    (ha0 : ag_at h (.ref a0) = some (.inl (0, n0, .inl f))) (ha : ag_at h (.ref a) = some (.inl (0, n1, .inl g))) (h1 : ¬ sp < 0) (h2 : ¬ dp < 0) (h3 : ¬ n < 0) (h4 : sp.toNatClampNeg + n.toNatClampNeg ≤ n0) (h5 : dp.toNatClampNeg + n.toNatClampNeg ≤ n1) (hw : (st.map fun v => v.category).sum ≤ 8)
    (k : ag_ev P l G M d Z (pc + 3) lv st (ag_up h a (.inl (0, n1, .inl (va_cpy f g sp.toNatClampNeg dp.toNatClampNeg n.toNatClampNeg))))) : ag_ev P l G M d Z pc lv (.int n :: .int dp :: .ref a :: .int sp :: .ref a0 :: st) h := by
  intro p e s m args below meth c ls H locs m0 s0 X g0 g1 hlv hr hS
  obtain ⟨j0, hj0, q1, q2⟩ := ag_at_some ha0
  cases hj0
  obtain ⟨j, hj, q3, q4⟩ := ag_at_some ha
  cases hj
  have hK := X.2.2.2.2.2.2.2
  have hts := hK.hts (args := args)
  obtain ⟨cA, hcA, hgd⟩ := ag_tyAt hK ht
  have hat := hr.2.2.2.2.2 j0 q1
  rw [q2] at hat
  have hc0 : H[ag_sz G + j0]? = some (vp_cell cA (n0, .inl f)) := by rw [← hgd]; exact hat
  have hbt := hr.2.2.2.2.2 j q3
  rw [q4] at hbt
  have hc1 : H[ag_sz G + j]? = some (vp_cell cA (n1, .inl g)) := by rw [← hgd]; exact hbt
  obtain ⟨-, k0, hk0, cm0, hkk0⟩ := (hK.1.2 0 _ hcA).1 n0 (fun j => .int (f j))
  have hloc : 2 * 0 + ((st.map (ag_v G)).map fun v => v.category).sum + (nativeFrameWords "java/lang/System" "arraycopy" 5 + 11) ≤ 60 * d + 200 := by
    have e7 : nativeFrameWords "java/lang/System" "arraycopy" 5 = 7 := by decide +kernel
    rw [ag_catsum, e7]
    omega
  intro T hT XS
  obtain ⟨vm', X', step⟩ := XS.arraycopy X.1 X.2.2.2.2.2.1 (hts _ hlk) (hts _ hnat) (hts _ hst) (hts _ hini) (src := ag_sz G + j0) (dst := ag_sz G + j) (cs := vp_cell cA (n0, .inl f)) (cd := vp_cell cA (n1, .inl g)) (srcPos := sp) (destPos := dp) (n := n) (by rw [hT]; exact hc0) (by rw [hT]; exact hc1)
    (fun _ h => by cases h) (fun _ h => by cases h) (fun h => by cases h) (fun h => by cases h) hk0 hk0 hkk0 hkk0 (show ((refKind FieldType.int != refKind FieldType.int) || (!refKind FieldType.int && FieldType.int != FieldType.int)) = false by decide) h1 h2 h3
    (by rw [ag_nn sp h1, ag_nn n h3]; show ¬ _ > ((arrV cA n0 (fun j => .int (f j))).slots.size : Int); rw [arrV_size]; omega)
    (by rw [ag_nn dp h2, ag_nn n h3]; show ¬ _ > ((arrV cA n1 (fun j => .int (g j))).slots.size : Int); rw [arrV_size]; omega)
    (fun vm₁ _ i hi => by
      have e : (vp_cell cA (n0, .inl f)).slots.getD (sp.toNatClampNeg + i) .null = .int (f (sp.toNatClampNeg + i)) := by
        show (arrV cA n0 (fun j => .int (f j))).slots.getD _ _ = _
        rw [Array.getD_eq_getD_getElem?, arrV_read _ _ (by omega)]
        rfl
      rw [e]
      exact ⟨rfl, trivial⟩)
    (g := F0 m pc ls ((.int n :: .int dp :: .ref (j + 2) :: .int sp :: .ref (j0 + 2) :: st).map (ag_v G))) rfl (by rw [X.2.2.1]; exact hlv.1) (rest := st.map (ag_v G)) rfl (by rw [X.2.1]; exact hd) (show 1 ≤ d + 8 by omega) hloc
  have e1 : copied (vp_cell cA (n0, .inl f)) (vp_cell cA (n1, .inl g)) sp dp n = vp_cell cA (n1, .inl (va_cpy f g sp.toNatClampNeg dp.toNatClampNeg n.toNatClampNeg)) := va_copied (fun z => .int z) cA cA f g h4
  rw [e1] at X' step
  have hl : ag_sz G + j < H.size := (Array.getElem?_eq_some_iff.mp hc1).1
  have hheap : ((T.setVm vm').setCell (ag_sz G + j) (vp_cell cA (n1, .inl (va_cpy f g sp.toNatClampNeg dp.toNatClampNeg n.toNatClampNeg)))).heap = H.setIfInBounds (ag_sz G + j) (vp_cell cA (n1, .inl (va_cpy f g sp.toNatClampNeg dp.toNatClampNeg n.toNatClampNeg))) := by rw [← hT]; rfl
  have oq : ∀ q : Nat, q ≠ ag_sz G + j → (H.setIfInBounds (ag_sz G + j) (vp_cell cA (n1, .inl (va_cpy f g sp.toNatClampNeg dp.toNatClampNeg n.toNatClampNeg))))[q]? = H[q]? := fun q hq => by simp [Array.getElem?_setIfInBounds, Ne.symm hq]
  have e2 : (H.setIfInBounds (ag_sz G + j) (vp_cell cA (n1, .inl (va_cpy f g sp.toNatClampNeg dp.toNatClampNeg n.toNatClampNeg))))[ag_sz G + j]? = some (vp_cell cA (n1, .inl (va_cpy f g sp.toNatClampNeg dp.toNatClampNeg n.toNatClampNeg))) := by simp [Array.getElem?_setIfInBounds, hl]
  have hz : (H.setIfInBounds (ag_sz G + j) (vp_cell cA (n1, .inl (va_cpy f g sp.toNatClampNeg dp.toNatClampNeg n.toNatClampNeg)))).size = H.size := by simp
  have hob : va_at (ag_D G) P.2.1 (ag_sz G + j, ag_e G (.inl (0, n1, .inl (va_cpy f g sp.toNatClampNeg dp.toNatClampNeg n.toNatClampNeg)))) (H.setIfInBounds (ag_sz G + j) (vp_cell cA (n1, .inl (va_cpy f g sp.toNatClampNeg dp.toNatClampNeg n.toNatClampNeg)))) := by
    show _ = some (vp_cell (((ag_tys G)[0]?).getD (0, .int)).1 _)
    rw [hgd, e2]
    rfl
  have hsz : ∀ z : Nat → Int32, (vp_cell cA (n1, .inl z)).slots.size = n1 := fun z => by show (arrV cA n1 _).slots.size = n1; rw [arrV_size]
  obtain ⟨t, a1, b1⟩ := k p e s m args below meth c ls _ _ m0 s0 X g0 g1 hlv (hr.put q3 hz oq (by rw [e2, hc1]; exact congrArg some ((hsz _).trans (hsz _).symm)) hob) ⟨by rw [hz]; exact hS.1, fun q g1 g2 => by
      rw [oq q (fun e => g2 (by rw [e]; exact Nat.le_add_right _ _))]
      exact hS.2.1 q g1 g2, fun q hq => by
      rcases List.mem_append.mp hq with h | h
      · exact hS.2.2 q h
      · obtain ⟨z, -, hz⟩ := List.mem_map.mp h
        rw [← hz]
        exact Nat.le_add_right _ _⟩ _ hheap X'
  exact ⟨t, step t a1, b1⟩
end AGCP
def ag_cpi (h : ag_H) (r0 : Option Nat) (sp : Int32) (r : Option Nat) (dp n : Int32) : Option ag_H := (ag_ai h 0 r0).bind fun p0 => (ag_ai h 0 r).bind fun p =>
  if ¬ sp < 0 ∧ ¬ dp < 0 ∧ ¬ n < 0 ∧ sp.toNatClampNeg + n.toNatClampNeg ≤ p0.1 ∧ dp.toNatClampNeg + n.toNatClampNeg ≤ p.1 then some (ag_up h (r.getD 0) (.inl (0, p.1, .inl (va_cpy p0.2 p.2 sp.toNatClampNeg dp.toNatClampNeg n.toNatClampNeg)))) else none
theorem ag_cpi_ok {h h' : ag_H} {r0 r : Option Nat} {sp dp n : Int32} (e : ag_cpi h r0 sp r dp n = some h') : ∃ a0 a n0 n1 f g, r0 = some a0 ∧ r = some a ∧ ag_at h (.ref a0) = some (.inl (0, n0, .inl f)) ∧ ag_at h (.ref a) = some (.inl (0, n1, .inl g)) ∧ (¬ sp < 0 ∧ ¬ dp < 0 ∧ ¬ n < 0 ∧ sp.toNatClampNeg + n.toNatClampNeg ≤ n0 ∧ dp.toNatClampNeg + n.toNatClampNeg ≤ n1) ∧ h' = ag_up h a (.inl (0, n1, .inl (va_cpy f g sp.toNatClampNeg dp.toNatClampNeg n.toNatClampNeg))) := by
  obtain ⟨p0, e0, u1⟩ := md_bd e
  obtain ⟨p, e1, u2⟩ := md_bd u1
  obtain ⟨q, u3⟩ := md_ifs u2
  obtain ⟨a0, rfl, e3⟩ := ag_ai_ok e0
  obtain ⟨a, rfl, e4⟩ := ag_ai_ok e1
  cases u3
  exact ⟨a0, a, _, _, _, _, rfl, rfl, e3, e4, q, rfl⟩
theorem gc_cpi {l : Launch} {G : ag_G} {M : ag_M} {d : Nat} {Z : ag_Z} {pc ix : Nat} {lv : ag_L} {st : List Value} {h : ag_H} {r0 r : Option Nat} {sp dp n : Int32} {h' : ag_H} (hd : decode M.2.1 pc = .ok (.invokestatic ix, 3)) (hlk : Cond.methodLink M.1.cls ix arraycopyName ∈ gc_W) (hnat : Cond.native arraycopyName ∈ gc_W) (hst : Cond.static arraycopyName ∈ gc_W) (hini : Cond.initialized "java/lang/System" ∈ gc_W) (hw : (st.map fun v => v.category).sum ≤ 8) (ha : ag_cpi h r0 sp r dp n = some h')
    (k : ag_ev gc_P l G M d Z (pc + 3) lv st h') : ag_ev gc_P l G M d Z pc lv (.int n :: .int dp :: ag_rf r :: .int sp :: ag_rf r0 :: st) h := by
  obtain ⟨a0, a, n0, n1, f, g, rfl, rfl, e3, e4, ⟨h1, h2, h3, h4, h5⟩, rfl⟩ := ag_cpi_ok ha
  exact ag_copyi hd hlk hnat hst hini rfl e3 e4 h1 h2 h3 h4 h5 hw k
