/-! ### An array of rows; wrappers -/
theorem ag_sum_rows {H F : Heap} {N K : Nat} {o : Cell} {r : Cell} (f1 : F.size = H.size + 1 + N) (f2 : F[H.size]? = some o) (ho : o.slots.size = N) (hr : ∀ j : Nat, j < N → F[H.size + 1 + j]? = some r) (hrs : r.slots.size = K) : ag_sum H.size F = N + N * K := by
  have h : (F.toList.drop H.size).map (·.slots.size) = N :: List.replicate N K := by
    apply List.ext_getElem?
    intro i
    rw [List.getElem?_map, List.getElem?_drop, Array.getElem?_toList]
    cases i with
    | zero => rw [Nat.add_zero, f2]; simp [ho]
    | succ i =>
      rw [show H.size + (i + 1) = H.size + 1 + i by omega]
      by_cases hi : i < N
      · rw [hr i hi]; simp [hrs, hi]
      · rw [Array.getElem?_eq_none (by omega)]
        simp [hi]
  unfold ag_sum
  rw [h]
  simp
section AGMM
variable {P : ag_P} {l : Launch} {G : ag_G} {M : ag_M} {d : Nat} {Z : ag_Z} {pc : Nat} {lv : ag_L} {st : List Value} {h : ag_H}
set_option maxHeartbeats 1000000 in
theorem ag_mna {ix : Nat} {n k0 : Int32} (hd : decode M.2.1 pc = .ok (.multianewarray ix 2, 4)) (hw : Cond.classLink M.1.cls ix "[[I" ∈ P.1) (ho : Cond.arrayOver (.array .int) ∈ P.1) (ha : Cond.arrayClass .int ∈ P.1) (ht0 : P.2.2[0]? = some .int) (ht6 : P.2.2[6]? = some (.array .int)) (hn : ¬ n < 0) (hk : ¬ k0 < 0) (hb1 : n.toNatClampNeg * 4 ≤ 536870912) (hb2 : k0.toNatClampNeg * 4 ≤ 536870912)
    (hc1 : h.1 + 1 + n.toNatClampNeg ≤ ag_cN G) (hc2 : h.2.1 + (n.toNatClampNeg + n.toNatClampNeg * k0.toNatClampNeg) ≤ ag_cS G) (k : ag_ev P l G M d Z (pc + 4) lv (.ref h.1 :: st) (ag_mn h n.toNatClampNeg k0.toNatClampNeg)) : ag_ev P l G M d Z pc lv (.int k0 :: .int n :: st) h := by
  intro p e s m args below meth c ls H locs n0 s0 X h0 h1 hl hr hS
  have hK := X.2.2.2.2.2.2.2
  have hts := hK.hts (args := args)
  have hz := hK.2.2.2.2.1.2
  have hle := hS.1
  obtain ⟨cy, hcy, hgd0⟩ := ag_tyAt hK ht0
  obtain ⟨cA', hcA', hgd6⟩ := ag_tyAt hK ht6
  have hRA0 : s.vm.findClass ("[" ++ (FieldType.int).toString) = some cy := (hK.1.2 0 _ hcy).2
  have hRA6 : s.vm.findClass ("[" ++ (FieldType.array .int).toString) = some cA' := (hK.1.2 6 _ hcA').2
  refine ag_leW h1 hz hr.2.2.1 fun hs01 => ?_
  have hr2 := hr.2.1
  have hr1' := hr.1
  intro T hT Xs
  obtain ⟨vm₁, cA, comp, -, fA, fC, hO, -, X', step⟩ := Xs.multianewarray2F X.1 X.2.2.2.2.2.1 (hts _ hw) (hts _ ho) (hts _ ha) (g := F0 m pc ls (.int k0 :: .int n :: st.map (ag_v G))) rfl (by rw [X.2.1]; exact hd) rfl hn hk hb1 hb2 (by omega) rfl rfl (show h.1 - n0 + (1 + n.toNatClampNeg) ≤ ag_cN G - n0 by omega) (show h.2.1 - s0 + (n.toNatClampNeg + n.toNatClampNeg * k0.toNatClampNeg) ≤ ag_cS G - s0 by omega)
  have ec : some cy = some comp := hRA0.symm.trans fC
  cases ec
  have ec2 : some cA' = some cA := hRA6.symm.trans fA
  cases ec2
  generalize hF : Jvm.Free.Multi.fill (T.setVm vm₁) cA' cy n.toNatClampNeg k0.toNatClampNeg (defaultValue .int) n.toNatClampNeg = F at X' step
  have hTh : (T.setVm vm₁).heap = H := hT
  obtain ⟨f1, f2, -, -⟩ := Jvm.Free.Multi.fill_facts (T.setVm vm₁) cA' cy n.toNatClampNeg k0.toNatClampNeg (defaultValue .int) n.toNatClampNeg
  rw [hF, hTh] at f1 f2
  have hold : ∀ x : Nat, x < H.size → F.heap[x]? = H[x]? := fun x hx => by
    have := Jvm.Free.Multi.fill_old (T.setVm vm₁) cA' cy n.toNatClampNeg k0.toNatClampNeg (defaultValue .int) (a := x) (by rw [hTh]; exact hx) n.toNatClampNeg
    rw [hF, hTh] at this
    exact this
  have hrow : ∀ j : Nat, j < n.toNatClampNeg → F.heap[H.size + 1 + j]? = some (arrV cy k0.toNatClampNeg (fun _ => .int 0)) := fun j hj => by
    have := Jvm.Free.Multi.fill_inner (T.setVm vm₁) cA' cy n.toNatClampNeg k0.toNatClampNeg (defaultValue .int) n.toNatClampNeg j hj
    rw [hF, hTh] at this
    rw [this, ← arrV_new]
    rfl
  rw [ag_outer] at f2
  have hadr : ag_ad G h.1 = H.size := hr.addr
  have hsz : ag_sum (ag_sz G) F.heap = h.2.1 + (n.toNatClampNeg + n.toNatClampNeg * k0.toNatClampNeg) := by
    rw [ag_sum_split (z1 := H.size) (H0 := H) (by omega) rfl (fun q hq => by rw [hold q hq]), hr.2.2.1, ag_sum_rows (by omega) f2 (arrV_size _ _ _) hrow (arrV_size _ _ _)]
  have hR : ag_R P G (ag_mn h n.toNatClampNeg k0.toNatClampNeg) F.heap := by
    refine ⟨show 2 ≤ h.1 + 1 + n.toNatClampNeg by omega, show F.heap.size + 2 = _ + (h.1 + 1 + n.toNatClampNeg) by omega, hsz, hc1, hc2, fun j hj => ?_⟩
    have hj' : j + 2 < h.1 + 1 + n.toNatClampNeg := hj
    show va_at _ _ (_, ag_e G (if j + 2 < h.1 then h.2.2 (j + 2) else if j + 2 = h.1 then _ else _)) F.heap
    by_cases q1 : j + 2 < h.1
    · rw [if_pos q1]
      exact (hr.2.2.2.2.2 j q1).kept (hold _ (show ag_sz G + j < H.size by omega))
    · rw [if_neg q1]
      by_cases q2 : j + 2 = h.1
      · rw [if_pos q2]
        show F.heap[ag_sz G + j]? = some (vp_cell (((ag_tys G)[6]?).getD (0, .int)).1 (n.toNatClampNeg, .inr (.inr (.inr (.inr (fun i => (if i < n.toNatClampNeg then some (h.1 + 1 + i) else none).map (ag_ad G)))))))
        rw [hgd6, vp_cell_q, show ag_sz G + j = H.size by omega, f2]
        congr 2
        funext i
        by_cases q3 : i < n.toNatClampNeg
        · rw [if_pos q3, if_pos q3]
          obtain ⟨z, hz2⟩ : ∃ z, h.1 + 1 + i = z + 2 := ⟨h.1 + 1 + i - 2, by omega⟩
          rw [hz2]
          show va_rf (some (H.size + 1 + i)) = va_rf (some (ag_sz G + z))
          congr 2
          omega
        · rw [if_neg q3, if_neg q3]
          rfl
      · rw [if_neg q2]
        show F.heap[ag_sz G + j]? = some (vp_cell (((ag_tys G)[0]?).getD (0, .int)).1 (k0.toNatClampNeg, .inl (fun _ => 0)))
        have := hrow (j + 2 - h.1 - 1) (by omega)
        rw [show H.size + 1 + (j + 2 - h.1 - 1) = ag_sz G + j by omega] at this
        rw [this, hgd0]
        rfl
  have hS' : va_S (ag_A G) s.heap F.heap locs := ⟨by omega, fun x h1 h2 => (hold x (Nat.lt_of_lt_of_le h1 hS.1)).trans (hS.2.1 x h1 h2), hS.2.2⟩
  obtain ⟨t, a1, b1⟩ := k p e s m args below meth c ls F.heap locs n0 s0 X h0 h1 hl hR hS' F rfl (ag_tight X' h0 h1 hz hR.2.1 hR.2.2.1)
  refine ⟨t, step t ?_, b1⟩
  have e9 : T.heap.size = H.size := by rw [hT]
  rw [e9]
  rw [List.map_cons, show ag_v G (.ref h.1) = .ref H.size from by show Value.ref (ag_ad G h.1) = _; rw [hadr]] at a1
  exact a1
end AGMM
section GCW
variable {l : Launch} {G : ag_G} {M : ag_M} {d : Nat} {Z : ag_Z} {pc : Nat} {lv : ag_L} {st : List Value} {h : ag_H} {C : Nat × Nat}
theorem gc_ald {r : Option Nat} {p : Nat × (Nat → Option Nat)} {i : Int32} (hd : decode M.2.1 pc = .ok (.aaload, 1)) (ha : ag_ao h r = some p) (hi : md_in i p.1 = true) (k : ag_ev gc_P l G M d Z (pc + 1) lv (ag_rf (p.2 i.toNatClampNeg) :: st) h) : ag_ev gc_P l G M d Z pc lv (.int i :: ag_rf r :: st) h := by
  obtain ⟨a, t, rfl, ht, h2⟩ := ag_ao_ok ha
  rcases ht with rfl | rfl | rfl
  · exact ag_aaldT (ty := .object "java/lang/Object") hd rfl rfl h2 (md_in_ok hi) k
  · exact ag_aaldT (ty := .object "GrantChain$Block") hd rfl rfl h2 (md_in_ok hi) k
  · exact ag_aaldT (ty := .array .int) hd rfl rfl h2 (md_in_ok hi) k
theorem ag_cokW {t ci : Nat} (hk : ag_cok t ci = true) : ∃ E q, gc_TY[t]? = some (.object E) ∧ gc_cl[ci]? = some q ∧ Cond.castable q.1 E ∈ gc_W := by
  unfold ag_cok at hk
  simp only [Bool.or_eq_true, Bool.and_eq_true, beq_iff_eq, decide_eq_true_eq] at hk
  rcases hk with ⟨rfl, hc⟩ | ⟨rfl, rfl⟩
  · refine ⟨"java/lang/Object", ?_⟩
    match ci, hc with
    | 0, _ => exact ⟨_, rfl, rfl, gw_1307⟩
    | 1, _ => exact ⟨_, rfl, rfl, gw_1308⟩
    | 2, _ => exact ⟨_, rfl, rfl, gw_1309⟩
    | 3, _ => exact ⟨_, rfl, rfl, gw_1310⟩
    | 4, _ => exact ⟨_, rfl, rfl, gw_1311⟩
    | 5, _ => exact ⟨_, rfl, rfl, gw_1312⟩
    | 6, _ => exact ⟨_, rfl, rfl, gw_1314⟩
    | 7, _ => exact ⟨_, rfl, rfl, gw_1315⟩
    | 8, _ => exact ⟨_, rfl, rfl, gw_1316⟩
    | 9, _ => exact ⟨_, rfl, rfl, gw_1317⟩
    | 10, _ => exact ⟨_, rfl, rfl, gw_1313⟩
    | n + 11, hc => exact absurd hc (by omega)
  · exact ⟨"GrantChain$Block", _, rfl, rfl, gw_1301⟩
theorem gc_ast {r w : Option Nat} {i : Int32} {h' : ag_H} (hd : decode M.2.1 pc = .ok (.aastore, 1)) (ha : ag_as h r i w = some h') (k : ag_ev gc_P l G M d Z (pc + 1) lv st h') : ag_ev gc_P l G M d Z pc lv (ag_rf w :: .int i :: ag_rf r :: st) h := by
  obtain ⟨a, t, n, f, rfl, ht, hi, h2, rfl, hw⟩ := ag_as_ok ha
  rcases hw with rfl | ⟨b, ci, fs, rfl, hb, hk⟩
  · rcases ht with rfl | rfl
    · exact ag_aastN (E := "java/lang/Object") hd rfl h2 (md_in_ok hi) k
    · exact ag_aastN (E := "GrantChain$Block") hd rfl h2 (md_in_ok hi) k
  · obtain ⟨E, q, g1, g2, g3⟩ := ag_cokW hk
    exact ag_aast hd g1 h2 (md_in_ok hi) hb g2 g3 k
theorem gc_mna {ix : Nat} {n k0 : Int32} (hC : ag_cN G = C.1 ∧ ag_cS G = C.2) (hd : decode M.2.1 pc = .ok (.multianewarray ix 2, 4)) (hw : Cond.classLink M.1.cls ix "[[I" ∈ gc_W) (ho : Cond.arrayOver (.array .int) ∈ gc_W) (ha : Cond.arrayClass .int ∈ gc_W)
    (hq : (¬ n < 0 ∧ ¬ k0 < 0) ∧ (n.toNatClampNeg * 4 ≤ 536870912 ∧ k0.toNatClampNeg * 4 ≤ 536870912) ∧ h.1 + 1 + n.toNatClampNeg ≤ C.1 ∧ h.2.1 + (n.toNatClampNeg + n.toNatClampNeg * k0.toNatClampNeg) ≤ C.2) (k : ag_ev gc_P l G M d Z (pc + 4) lv (.ref h.1 :: st) (ag_mn h n.toNatClampNeg k0.toNatClampNeg)) : ag_ev gc_P l G M d Z pc lv (.int k0 :: .int n :: st) h :=
  ag_mna hd hw ho ha rfl rfl hq.1.1 hq.1.2 hq.2.1.1 hq.2.1.2 (by rw [hC.1]; exact hq.2.2.1) (by rw [hC.2]; exact hq.2.2.2) k
end GCW
