/-! ### A row put into an array of rows -/
theorem gs_over {s : State} {args : Array Value} {t : FieldType} (h : (Cond.arrayOver (.array t)).before args s = true) : ∃ (comp cA : ClassId) (kA : Class), s.vm.findClass (FieldType.array t).toString = some comp ∧ s.vm.classes[cA]? = some kA ∧ kA.kind = .array comp (.array t) ∧ s.vm.findClass ("[" ++ (FieldType.array t).toString) = some cA := by
  simp only [Cond.before, Cond.holds, Cond.value, beq_iff_eq] at h
  obtain ⟨comp, hc, h⟩ := Option.bind_eq_some_iff.mp h
  obtain ⟨cA, hi, h⟩ := Option.bind_eq_some_iff.mp h
  obtain ⟨kA, hk, h⟩ := Option.map_eq_some_iff.mp h
  obtain ⟨hlt, hp, -⟩ := Array.findIdx?_eq_some_iff_getElem.mp hi
  have hg : s.vm.classes[cA] = kA := by
    have := Array.getElem?_eq_getElem hlt
    rw [hk] at this
    exact (Option.some.inj this).symm
  rw [hg] at hp
  cases hkd : kA.kind with
  | array c2 ty =>
    simp only [hkd, Bool.and_eq_true, decide_eq_true_eq] at h
    simp only [hkd, beq_iff_eq] at hp
    obtain ⟨rfl, h4⟩ := h
    subst hp
    exact ⟨_, cA, kA, hc, hk, hkd, h4⟩
  | _ => simp [hkd] at h
section AGI
variable {P : ag_P} {l : Launch} {G : ag_G} {M : ag_M} {d : Nat} {Z : ag_Z} {pc : Nat} {lv : ag_L} {st : List Value} {h : ag_H}
theorem ag_aasti {n a b : Nat} {x : vp_A} {f : Nat → Option Nat} {i : Int32} (hd : decode M.2.1 pc = .ok (.aastore, 1)) (ht : P.2.2[6]? = some (.array .int)) (ht0 : P.2.2[0]? = some .int) (hov : Cond.arrayOver (.array .int) ∈ P.1) (ha : ag_at h (.ref a) = some (.inl (6, n, .inr (.inr (.inr (.inr f)))))) (hi : vp_in i n) (hb : ag_at h (.ref b) = some (.inl (0, x)))
    (k : ag_ev P l G M d Z (pc + 1) lv st (ag_up h a (.inl (6, n, .inr (.inr (.inr (.inr (va_up f i.toNatClampNeg (some b))))))))) : ag_ev P l G M d Z pc lv (.ref b :: .int i :: .ref a :: st) h := by
  intro p e s m args below meth c ls H locs n0 s0 X h0 h1 hl hr hS
  obtain ⟨j, hj, g1, g2⟩ := ag_at_some ha
  cases hj
  obtain ⟨j2, hj2, g3, g4⟩ := ag_at_some hb
  cases hj2
  have hK := X.2.2.2.2.2.2.2
  obtain ⟨cA, hcA, hgd⟩ := ag_tyAt hK ht
  obtain ⟨c0, hc0, hgd0⟩ := ag_tyAt hK ht0
  have hat := hr.2.2.2.2.2 j g1
  rw [g2] at hat
  have hat' : H[ag_sz G + j]? = some (vp_cell cA (n, .inr (.inr (.inr (.inr (fun j => (f j).map (ag_ad G))))))) := by rw [← hgd]; exact hat
  have hbt := hr.2.2.2.2.2 j2 g3
  rw [g4] at hbt
  have hbt' : H[ag_sz G + j2]? = some (vp_cell c0 (ag_x G x)) := by rw [← hgd0]; exact hbt
  have hlt : i.toNatClampNeg < n := Nat.not_le.mp fun q => hi (Or.inr q)
  have hi0 : ¬ i < 0 := fun q => hi (Or.inl q)
  obtain ⟨comp, c9, kA, k0, k1, k2, k3⟩ := gs_over (hK.hts (args := args) _ hov)
  have e6 : s.vm.findClass ("[" ++ (FieldType.array .int).toString) = some cA := (hK.1.2 6 _ hcA).2
  cases k3.symm.trans e6
  have e0 : s.vm.findClass ("[" ++ FieldType.int.toString) = some c0 := (hK.1.2 0 _ hc0).2
  cases k0.symm.trans e0
  obtain ⟨kE, hkE, -⟩ := Vm.findClass_spec k0
  have hcls : (vp_cell c0 (ag_x G x)).cls = c0 := by rcases x with ⟨n', f' | f' | f' | f' | f'⟩ <;> rfl
  have hvm : (vp_cell c0 (ag_x G x)).vm = .none := by rcases x with ⟨n', f' | f' | f' | f' | f'⟩ <;> rfl
  refine W.aast X.1 X.2.1 hat' (fun q h => by cases h) (fun h => by cases h) k1 k2 rfl hkE ⟨hi0, by show _ < (arrV _ _ _).slots.size; rw [arrV_size]; exact hlt⟩ hbt' (fun q h => by rw [hvm] at h; cases h) (by rw [hcls]; exact hkE) (by rw [hcls]; exact Vm.assignable_self _ _) rfl rfl hd fun H1 e1 z oq => ?_
  have hob : va_at (ag_D G) P.2.1 (ag_sz G + j, ag_e G (.inl (6, n, .inr (.inr (.inr (.inr (va_up f i.toNatClampNeg (some (j2 + 2))))))))) H1 := by
    show H1[ag_sz G + j]? = some (vp_cell (((ag_tys G)[6]?).getD (0, .int)).1 (n, .inr (.inr (.inr (.inr (fun j => (va_up f i.toNatClampNeg (some (j2 + 2)) j).map (ag_ad G)))))))
    rw [hgd, e1, vp_cell_q, vp_cell_q, arrV_store]
    congr 2
    funext q
    by_cases hq : q = i.toNatClampNeg
    · subst hq
      simp [updV, va_up, va_rf]
      rfl
    · simp [updV, va_up, hq]
  exact k p e s m args below meth c ls H1 _ n0 s0 X h0 h1 hl (hr.put g1 z oq (by rw [e1, hat']; simp [Cell.setSlot]) hob) (ag_S_put hS z oq)
end AGI
def ag_asi (h : ag_H) (r : Option Nat) (i : Int32) (w : Option Nat) : Option ag_H := match ag_at h (ag_rf r) with
  | some (.inl (t, n, .inr (.inr (.inr (.inr f))))) => (match ag_at h (ag_rf w) with
    | some (.inl (t', _)) => if (t = 6 ∧ t' = 0) ∧ md_in i n = true then some (ag_up h (r.getD 0) (.inl (t, n, .inr (.inr (.inr (.inr (va_up f i.toNatClampNeg w))))))) else none
    | _ => none)
  | _ => none
theorem ag_asi_ok {h h' : ag_H} {r w : Option Nat} {i : Int32} (e : ag_asi h r i w = some h') : ∃ a b n f x, r = some a ∧ w = some b ∧ md_in i n = true ∧ ag_at h (.ref a) = some (.inl (6, n, .inr (.inr (.inr (.inr f))))) ∧ ag_at h (.ref b) = some (.inl (0, x)) ∧ h' = ag_up h a (.inl (6, n, .inr (.inr (.inr (.inr (va_up f i.toNatClampNeg (some b))))))) := by
  unfold ag_asi at e
  split at e
  · rename_i t n f e1
    split at e
    · rename_i t' x e2
      split at e
      · rename_i q
        obtain ⟨⟨rfl, rfl⟩, q2⟩ := q
        obtain ⟨a, rfl, e3⟩ := ag_at_rf e1
        obtain ⟨b, rfl, e4⟩ := ag_at_rf e2
        cases e
        exact ⟨a, b, n, f, x, rfl, rfl, q2, e3, e4, rfl⟩
      · cases e
    · cases e
  · cases e
theorem gc_asi {l : Launch} {G : ag_G} {M : ag_M} {d : Nat} {Z : ag_Z} {pc : Nat} {lv : ag_L} {st : List Value} {h : ag_H} {r w : Option Nat} {i : Int32} {h' : ag_H} (hd : decode M.2.1 pc = .ok (.aastore, 1)) (hov : Cond.arrayOver (.array .int) ∈ gc_W) (ha : ag_asi h r i w = some h') (k : ag_ev gc_P l G M d Z (pc + 1) lv st h') : ag_ev gc_P l G M d Z pc lv (ag_rf w :: .int i :: ag_rf r :: st) h := by
  obtain ⟨a, b, n, f, x, rfl, rfl, q2, e3, e4, rfl⟩ := ag_asi_ok ha
  exact ag_aasti hd rfl rfl hov e3 (md_in_ok q2) e4 k
