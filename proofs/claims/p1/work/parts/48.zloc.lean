/-! ### Locals of one word alone -/
def ag_s0 (lv : ag_L) (i : Nat) (v : Value) : ag_L := ag_ins (lv.filter (fun q => !(q.1 == i))) i v
def ag_C1 (lv : ag_L) : Prop := ∀ q ∈ lv, q.2.category = 1
theorem ag_c0 : ag_C1 [] := fun _ h => by cases h
theorem ag_c1 {lv : ag_L} {i : Nat} {v : Value} (h : v.category = 1) (t : ag_C1 lv) : ag_C1 ((i, v) :: lv) := List.forall_mem_cons.mpr ⟨h, t⟩
theorem ag_cs {lv : ag_L} {i : Nat} {v : Value} (t : ag_C1 lv) (h : v.category = 1) : ag_C1 (ag_s0 lv i v) := by
  intro q hq
  rcases ag_ins_mem hq with rfl | hq
  · exact h
  · exact t q (List.mem_filter.mp hq).1
theorem ag_ins_mono {l l' : ag_L} {i : Nat} {v : Value} (h : ∀ q ∈ l, q ∈ l') : ∀ q ∈ ag_ins l i v, q = (i, v) ∨ q ∈ l' := by
  intro q hq
  rcases ag_ins_mem hq with h1 | h1
  · exact Or.inl h1
  · exact Or.inr (h q h1)
theorem ag_in_ins {l : ag_L} {i : Nat} {v : Value} {q : Nat × Value} (h : q = (i, v) ∨ q ∈ l) : q ∈ ag_ins l i v := by
  induction l with
  | nil =>
    unfold ag_ins
    rcases h with h | h
    · exact List.mem_singleton.mpr h
    · cases h
  | cons x t ih =>
    obtain ⟨j, w⟩ := x
    unfold ag_ins
    cases hb : Nat.ble i j with
    | true =>
      show q ∈ (i, v) :: (j, w) :: t
      rcases h with h | h
      · rw [h]; exact List.mem_cons_self
      · exact List.mem_cons_of_mem _ h
    | false =>
      show q ∈ (j, w) :: ag_ins t i v
      rcases h with h | h
      · exact List.mem_cons_of_mem _ (ih (Or.inl h))
      · rcases List.mem_cons.mp h with h | h
        · rw [h]; exact List.mem_cons_self
        · exact List.mem_cons_of_mem _ (ih (Or.inr h))
theorem ag_s01 {lv : ag_L} {i : Nat} {v : Value} (t : ag_C1 lv) : ∀ q ∈ ag_s0 lv i v, q ∈ ag_s1 lv i v := by
  intro q hq
  refine ag_in_ins ?_
  rcases ag_ins_mem hq with h | h
  · exact Or.inl h
  · refine Or.inr (List.mem_filter.mpr ⟨(List.mem_filter.mp h).1, ?_⟩)
    have h1 := (List.mem_filter.mp h).2
    have h2 := t q (List.mem_filter.mp h).1
    simp only [h1, h2, Bool.true_and]
    simp
theorem ag_v0 : ∀ v ∈ ([] : List Value), v.category = 1 := fun _ h => by cases h
theorem ag_v1 {l : List Value} {v : Value} (h : v.category = 1) (t : ∀ w ∈ l, w.category = 1) : ∀ w ∈ v :: l, w.category = 1 := List.forall_mem_cons.mpr ⟨h, t⟩
theorem ag_slc {vs : List Value} {n : Nat} (h : ∀ v ∈ vs, v.category = 1) (hn : vs.length ≤ n) : (lg_sl vs).length ≤ n := by
  have : (lg_sl vs).length = vs.length := by
    clear hn
    induction vs with
    | nil => rfl
    | cons v t ih =>
      have h1 := h v List.mem_cons_self
      have h2 := ih (fun w hw => h w (List.mem_cons_of_mem _ hw))
      simp only [lg_sl, List.flatMap_cons, h1, List.length_append] at h2 ⊢
      rw [h2]
      simp
      omega
  rw [this]
  exact hn
section GCL
variable {l : Launch} {G : ag_G} {M : ag_M} {d : Nat} {Z : ag_Z} {pc : Nat} {lv : ag_L} {st : List Value} {h : ag_H}
theorem gc_istore_n {n : Fin 4} {x : Int32} (hd : decode M.2.1 pc = .ok (.istore_n n, 1)) (hn : (n : Nat) < M.2.2.1) (hc : ag_C1 lv) (k : ag_ev gc_P l G M d Z (pc + 1) (ag_s0 lv n (.int x)) st h) : ag_ev gc_P l G M d Z pc lv (.int x :: st) h := ag_istore_n hd hn (ag_drop (ag_s01 hc) k)
theorem gc_istore {n : Nat} {x : Int32} (hd : decode M.2.1 pc = .ok (.istore n, 2)) (hn : n < M.2.2.1) (hc : ag_C1 lv) (k : ag_ev gc_P l G M d Z (pc + 2) (ag_s0 lv n (.int x)) st h) : ag_ev gc_P l G M d Z pc lv (.int x :: st) h := ag_istore hd hn (ag_drop (ag_s01 hc) k)
theorem gc_astore0_n {n : Fin 4} {r : Option Nat} (hd : decode M.2.1 pc = .ok (.astore_n n, 1)) (hn : (n : Nat) < M.2.2.1) (hc : ag_C1 lv) (k : ag_ev gc_P l G M d Z (pc + 1) (ag_s0 lv n (ag_rf r)) st h) : ag_ev gc_P l G M d Z pc lv (ag_rf r :: st) h := gc_astore_n hd hn (ag_drop (ag_s01 hc) k)
theorem gc_astore0 {n : Nat} {r : Option Nat} (hd : decode M.2.1 pc = .ok (.astore n, 2)) (hn : n < M.2.2.1) (hc : ag_C1 lv) (k : ag_ev gc_P l G M d Z (pc + 2) (ag_s0 lv n (ag_rf r)) st h) : ag_ev gc_P l G M d Z pc lv (ag_rf r :: st) h := gc_astore hd hn (ag_drop (ag_s01 hc) k)
theorem gc_iinc {n : Nat} {i : Int} {x : Int32} (hd : decode M.2.1 pc = .ok (.iinc n i, 3)) (hg : ag_get lv n = some (.int x)) (hn : n < M.2.2.1) (hc : ag_C1 lv) (k : ag_ev gc_P l G M d Z (pc + 3) (ag_s0 lv n (.int (x + Int32.ofInt i))) st h) : ag_ev gc_P l G M d Z pc lv st h := ag_iinc hd hg hn (ag_drop (ag_s01 hc) k)
end GCL
