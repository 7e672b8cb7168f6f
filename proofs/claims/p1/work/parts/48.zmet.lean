/-! ### Entry with one-word arguments; Math.max and Math.min -/
def ag_zip : Nat → List Value → ag_L
  | _, [] => []
  | i, v :: vs => (i, v) :: ag_zip (i + 1) vs
theorem ag_zipE : ∀ (vs : List Value) (i : Nat), (∀ v ∈ vs, v.category = 1) → lv_args i vs = ag_zip i vs
  | [], _, _ => rfl
  | v :: vs, i, h => by
    have h1 := List.forall_mem_cons.mp h
    show (i, v) :: lv_args (if v.category = 2 then i + 2 else i + 1) vs = (i, v) :: ag_zip (i + 1) vs
    rw [h1.1, if_neg (by decide), ag_zipE vs (i + 1) h1.2]
section AGZ
variable {P : ag_P} {l : Launch} {G : ag_G} {M : ag_M} {d : Nat} {Z : ag_Z} {pc : Nat} {lv : ag_L} {st as : List Value} {h : ag_H} {Q : Option Value → ag_H → Prop}
theorem ag_met0 (hy : plainName M.1.cls = true) (hh : M.2.2.2.2 = []) (hv : ∀ v ∈ as, v.category = 1) (hn : as.length ≤ M.2.2.1) (k : ag_ev P l G M d (ag_ret P G Q) 0 (ag_zip 0 as) [] h) : ag_Met P l G M d as h Q :=
  ag_met hy hh (ag_slc hv hn) (by rw [ag_zipE _ _ hv]; exact k)
theorem ag_max {ix : Nat} {x y : Int32} (hd : decode M.2.1 pc = .ok (.invokestatic ix, 3)) (hl : Cond.methodLink M.1.cls ix Lib.Math.max.name ∈ P.1) (hs : Cond.static Lib.Math.max.name ∈ P.1) (hi : Cond.initialized "java/lang/Math" ∈ P.1) (hc : Cond.code Lib.Math.max.name Lib.Math.max.code 2 (some .int) ∈ P.1) (hw : (st.map fun v => v.category).sum ≤ 8)
    (k : ag_ev P l G M d Z (pc + 3) lv (.int (if x < y then y else x) :: st) h) : ag_ev P l G M d Z pc lv (.int y :: .int x :: st) h := by
  intro p e s m args below meth c ls H locs n0 s0 X h0 h1 hlv hr hS
  have hK := X.2.2.2.2.2.2.2
  have hts := hK.hts (args := args)
  have hk := hr.2.2.2
  exact va_mmax X.1 X.2.1 (X.2.2.1.trans hlv.1.symm) X.2.2.2.2.2.1 (hts _ hl) (hts _ hs) (hts _ hi) (hts _ hc) (show 1 ≤ d + 8 by omega) (by rw [ag_catsum]; show _ ≤ 60 * d + 200; omega) (show h.1 - n0 ≤ ag_cN G - n0 by omega) (show h.2.1 - s0 ≤ ag_cS G - s0 by omega) hd (k p e s m args below meth c ls H locs n0 s0 X h0 h1 hlv hr hS)
theorem ag_min {ix : Nat} {x y : Int32} (hd : decode M.2.1 pc = .ok (.invokestatic ix, 3)) (hl : Cond.methodLink M.1.cls ix Lib.Math.min.name ∈ P.1) (hs : Cond.static Lib.Math.min.name ∈ P.1) (hi : Cond.initialized "java/lang/Math" ∈ P.1) (hc : Cond.code Lib.Math.min.name Lib.Math.min.code 2 (some .int) ∈ P.1) (hw : (st.map fun v => v.category).sum ≤ 8)
    (k : ag_ev P l G M d Z (pc + 3) lv (.int (if y < x then y else x) :: st) h) : ag_ev P l G M d Z pc lv (.int y :: .int x :: st) h := by
  intro p e s m args below meth c ls H locs n0 s0 X h0 h1 hlv hr hS
  have hK := X.2.2.2.2.2.2.2
  have hts := hK.hts (args := args)
  have hk := hr.2.2.2
  exact va_mmin X.1 X.2.1 (X.2.2.1.trans hlv.1.symm) X.2.2.2.2.2.1 (hts _ hl) (hts _ hs) (hts _ hi) (hts _ hc) (show 1 ≤ d + 8 by omega) (by rw [ag_catsum]; show _ ≤ 60 * d + 200; omega) (show h.1 - n0 ≤ ag_cN G - n0 by omega) (show h.2.1 - s0 ≤ ag_cS G - s0 by omega) hd (k p e s m args below meth c ls H locs n0 s0 X h0 h1 hlv hr hS)
end AGZ
theorem gw_max : Cond.code Lib.Math.max.name Lib.Math.max.code 2 (some .int) ∈ gc_W := gw_386
theorem gw_min : Cond.code Lib.Math.min.name Lib.Math.min.code 2 (some .int) ∈ gc_W := gw_422
theorem ag_w8 : ∀ {st : List Value}, (∀ v ∈ st, v.category = 1) → (st.map fun v => v.category).sum = st.length
  | [], _ => rfl
  | v :: vs, h => by
    have h1 := List.forall_mem_cons.mp h
    rw [List.map_cons, List.sum_cons, h1.1, ag_w8 h1.2, List.length_cons, Nat.add_comm]
theorem ag_w9 {st : List Value} (h : ∀ v ∈ st, v.category = 1) (hn : st.length ≤ 8) : (st.map fun v => v.category).sum ≤ 8 := by rw [ag_w8 h]; exact hn
