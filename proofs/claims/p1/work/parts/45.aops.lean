/-! ### Arrays of references -/
section AGAA
variable {P : ag_P} {l : Launch} {G : ag_G} {M : ag_M} {d : Nat} {Z : ag_Z} {pc : Nat} {lv : ag_L} {st : List Value} {h : ag_H}
theorem ag_aaldT {t n : Nat} {ty : FieldType} {f : Nat → Option Nat} {i : Int32} {v : Value} (hd : decode M.2.1 pc = .ok (.aaload, 1)) (ht : P.2.2[t]? = some ty) (hty : ty.isReference = true) (ha : ag_at h v = some (.inl (t, n, .inr (.inr (.inr (.inr f)))))) (hi : vp_in i n) (k : ag_ev P l G M d Z (pc + 1) lv (ag_rf (f i.toNatClampNeg) :: st) h) : ag_ev P l G M d Z pc lv (.int i :: v :: st) h := by
  intro p e s m args below meth c ls H locs n0 s0 X h0 h1 hl hr hS
  obtain ⟨j, rfl, g1, g2⟩ := ag_at_some ha
  have hK := X.2.2.2.2.2.2.2
  obtain ⟨cA, hcA, hgd⟩ := ag_tyAt hK ht
  have hat := hr.2.2.2.2.2 j g1
  rw [g2] at hat
  have hat' : H[ag_sz G + j]? = some (vp_cell cA (n, .inr (.inr (.inr (.inr (fun j => (f j).map (ag_ad G))))))) := by rw [← hgd]; exact hat
  have hk := k p e s m args below meth c ls H locs n0 s0 X h0 h1 hl hr hS
  rw [List.map_cons, ag_v_rf] at hk
  have hlt : i.toNatClampNeg < n := Nat.not_le.mp fun q => hi (Or.inr q)
  exact W.aald (v := va_rf ((f i.toNatClampNeg).map (ag_ad G))) (ty := ty) X.1 X.2.1 hat' ((hK.1.2 t _ hcA).1 n (fun j => va_rf ((f j).map (ag_ad G)))) hty (fun q => by cases q) (by show ¬ (i < 0 ∨ (arrV _ _ _).slots.size ≤ _); rw [arrV_size]; exact hi) (by show (arrV _ _ _).slots[_]? = _; rw [arrV_read _ _ hlt]) rfl rfl hd hk
theorem ag_aast {t n a b ci : Nat} {E : String} {f : Nat → Option Nat} {i : Int32} {q : vw_C} {fs : List Value} (hd : decode M.2.1 pc = .ok (.aastore, 1)) (ht : P.2.2[t]? = some (.object E)) (ha : ag_at h (.ref a) = some (.inl (t, n, .inr (.inr (.inr (.inr f)))))) (hi : vp_in i n) (hb : ag_at h (.ref b) = some (.inr (ci, fs))) (hc : P.2.1[ci]? = some q) (hca : Cond.castable q.1 E ∈ P.1)
    (k : ag_ev P l G M d Z (pc + 1) lv st (ag_up h a (.inl (t, n, .inr (.inr (.inr (.inr (va_up f i.toNatClampNeg (some b))))))))) : ag_ev P l G M d Z pc lv (.ref b :: .int i :: .ref a :: st) h := by
  intro p e s m args below meth c ls H locs n0 s0 X h0 h1 hl hr hS
  obtain ⟨j, hj, g1, g2⟩ := ag_at_some ha
  cases hj
  have hK := X.2.2.2.2.2.2.2
  obtain ⟨cA, hcA, hgd⟩ := ag_tyAt hK ht
  have hat := hr.2.2.2.2.2 j g1
  rw [g2] at hat
  have hat' : H[ag_sz G + j]? = some (vp_cell cA (n, .inr (.inr (.inr (.inr (fun j => (f j).map (ag_ad G))))))) := by rw [← hgd]; exact hat
  obtain ⟨cellV, c1, c2, c3⟩ := ag_recv hK hr hc hb
  have hlt : i.toNatClampNeg < n := Nat.not_le.mp fun q => hi (Or.inr q)
  have hi0 : ¬ i < 0 := fun q => hi (Or.inl q)
  obtain ⟨kA, comp, k1, k2, k3, -⟩ := (hK.1.2 t _ hcA).2
  obtain ⟨kE, hkE, -⟩ := Vm.findClass_spec k3
  obtain ⟨kV, hkV, -⟩ := Vm.findClass_spec c3
  obtain ⟨x1, x2, f1, f2, f3⟩ := Cond.castable_spec (hK.hts (args := args) _ hca)
  cases c3.symm.trans f1
  cases k3.symm.trans f2
  refine W.aast X.1 X.2.1 hat' (fun q h => by cases h) (fun h => by cases h) k1 k2 rfl hkE ⟨hi0, by show _ < (arrV _ _ _).slots.size; rw [arrV_size]; exact hlt⟩ c1 (fun q h => by rw [h] at c2; cases c2) hkV f3 rfl rfl hd fun H1 e1 z oq => ?_
  have hob : va_at (ag_D G) P.2.1 (ag_sz G + j, ag_e G (.inl (t, n, .inr (.inr (.inr (.inr (va_up f i.toNatClampNeg (some b)))))))) H1 := by
    show H1[ag_sz G + j]? = some (vp_cell (((ag_tys G)[t]?).getD (0, .int)).1 (n, .inr (.inr (.inr (.inr (fun j => (va_up f i.toNatClampNeg (some b) j).map (ag_ad G)))))))
    rw [hgd, e1, vp_cell_q, vp_cell_q, arrV_store]
    congr 2
    funext q
    by_cases hq : q = i.toNatClampNeg
    · subst hq
      simp [updV, va_up, va_rf]
    · simp [updV, va_up, hq]
  exact k p e s m args below meth c ls H1 _ n0 s0 X h0 h1 hl (hr.put g1 z oq (by rw [e1, hat']; simp [Cell.setSlot]) hob) (ag_S_put hS z oq)
theorem ag_aastN {t n a : Nat} {E : String} {f : Nat → Option Nat} {i : Int32} (hd : decode M.2.1 pc = .ok (.aastore, 1)) (ht : P.2.2[t]? = some (.object E)) (ha : ag_at h (.ref a) = some (.inl (t, n, .inr (.inr (.inr (.inr f)))))) (hi : vp_in i n)
    (k : ag_ev P l G M d Z (pc + 1) lv st (ag_up h a (.inl (t, n, .inr (.inr (.inr (.inr (va_up f i.toNatClampNeg none)))))))) : ag_ev P l G M d Z pc lv (.null :: .int i :: .ref a :: st) h := by
  intro p e s m args below meth c ls H locs n0 s0 X h0 h1 hl hr hS
  obtain ⟨j, hj, g1, g2⟩ := ag_at_some ha
  cases hj
  have hK := X.2.2.2.2.2.2.2
  obtain ⟨cA, hcA, hgd⟩ := ag_tyAt hK ht
  have hat := hr.2.2.2.2.2 j g1
  rw [g2] at hat
  have hat' : H[ag_sz G + j]? = some (vp_cell cA (n, .inr (.inr (.inr (.inr (fun j => (f j).map (ag_ad G))))))) := by rw [← hgd]; exact hat
  refine va_WaastN (C := E) X.1 X.2.1 hat' ((hK.1.2 t _ hcA).1 n (fun j => va_rf ((f j).map (ag_ad G)))) (fun h => by cases h) (by show ¬ (i < 0 ∨ (arrV _ _ _).slots.size ≤ _); rw [arrV_size]; exact hi) rfl rfl hd fun H1 e1 z oq => ?_
  have hob : va_at (ag_D G) P.2.1 (ag_sz G + j, ag_e G (.inl (t, n, .inr (.inr (.inr (.inr (va_up f i.toNatClampNeg none))))))) H1 := by
    show H1[ag_sz G + j]? = some (vp_cell (((ag_tys G)[t]?).getD (0, .int)).1 (n, .inr (.inr (.inr (.inr (fun j => (va_up f i.toNatClampNeg none j).map (ag_ad G)))))))
    rw [hgd, e1, vp_cell_q, vp_cell_q, arrV_store]
    congr 2
    funext q
    by_cases hq : q = i.toNatClampNeg
    · subst hq
      simp [updV, va_up, va_rf]
    · simp [updV, va_up, hq]
  exact k p e s m args below meth c ls H1 _ n0 s0 X h0 h1 hl (hr.put g1 z oq (by rw [e1, hat']; simp [Cell.setSlot]) hob) (ag_S_put hS z oq)
end AGAA
/-- an array of N rows of K numbers -/
def ag_mn (h : ag_H) (N K : Nat) : ag_H := (h.1 + 1 + N, h.2.1 + (N + N * K), fun q => if q < h.1 then h.2.2 q else if q = h.1 then .inl (6, N, .inr (.inr (.inr (.inr (fun i => if i < N then some (h.1 + 1 + i) else none))))) else .inl (0, K, .inl (fun _ => 0)))
theorem ag_outer (c : ClassId) (N h0 : Nat) : ∀ i : Nat, Jvm.Free.Multi.outerC c N h0 i = arrV c N (fun j => va_rf (if j < i then some (h0 + 1 + j) else none))
  | 0 => by
    show ({ cls := c, slots := Array.replicate N .null, vm := .none } : Cell) = _
    rw [arrV_new]
    congr 1
  | i + 1 => by
    show (Jvm.Free.Multi.outerC c N h0 i).setSlot i (.ref (h0 + 1 + i)) = _
    rw [ag_outer c N h0 i, arrV_store]
    congr 1
    funext j
    by_cases e : j = i
    · subst e
      simp [updV, va_rf]
    · by_cases h : j < i
      · simp [updV, e, h, Nat.lt_succ_of_lt h]
      · simp [updV, e, h, show ¬ j < i + 1 by omega]
