/-! ### Fields and arrays of the pure heap -/
def ag_at (h : ag_H) (v : Value) : Option ag_C := match v with
  | .ref (j + 2) => bif Nat.blt (j + 2) h.1 then some (h.2.2 (j + 2)) else none
  | _ => none
theorem ag_at_some {h : ag_H} {v : Value} {c : ag_C} (e : ag_at h v = some c) : ∃ j : Nat, v = .ref (j + 2) ∧ j + 2 < h.1 ∧ h.2.2 (j + 2) = c := by
  unfold ag_at at e
  split at e
  · next j =>
    cases hb : Nat.blt (j + 2) h.1 with
    | true =>
      rw [hb] at e
      refine ⟨j, rfl, ?_, Option.some.inj e⟩
      have := Nat.le_of_ble_eq_true (show Nat.ble (j + 2 + 1) h.1 = true from hb)
      omega
    | false => rw [hb] at e; cases e
  · cases e
def ag_gf (h : ag_H) (v : Value) (ci k : Nat) : Option Value := match ag_at h v with
  | some (.inr (c, fs)) => bif Nat.beq c ci then fs[k]? else none
  | _ => none
theorem ag_gf_some {h : ag_H} {v w : Value} {ci k : Nat} (e : ag_gf h v ci k = some w) : ∃ (j : Nat) (fs : List Value), v = .ref (j + 2) ∧ j + 2 < h.1 ∧ h.2.2 (j + 2) = .inr (ci, fs) ∧ fs[k]? = some w := by
  unfold ag_gf at e
  split at e
  · next c fs hc =>
    obtain ⟨j, h1, h2, h3⟩ := ag_at_some hc
    cases hb : Nat.beq c ci with
    | true =>
      rw [hb] at e
      have := Nat.eq_of_beq_eq_true hb
      subst this
      exact ⟨j, fs, h1, h2, h3, e⟩
    | false => rw [hb] at e; cases e
  · cases e
def ag_pf (h : ag_H) (v : Value) (ci k : Nat) (ty : FieldType) (w : Value) : Option ag_H := match v with
  | .ref a => match ag_at h (.ref a) with
    | some (.inr (c, fs)) => if c = ci ∧ k < fs.length ∧ narrow ty w = w ∧ fits ty w = true then some (ag_up h a (.inr (c, fs.set k w))) else none
    | _ => none
  | _ => none
theorem ag_pf_some {h h' : ag_H} {v w : Value} {ci k : Nat} {ty : FieldType} (e : ag_pf h v ci k ty w = some h') : ∃ (j : Nat) (fs : List Value), v = .ref (j + 2) ∧ j + 2 < h.1 ∧ h.2.2 (j + 2) = .inr (ci, fs) ∧ k < fs.length ∧ narrow ty w = w ∧ fits ty w = true ∧ h' = ag_up h (j + 2) (.inr (ci, fs.set k w)) := by
  unfold ag_pf at e
  split at e
  · next a =>
    split at e
    · next c fs hc =>
      obtain ⟨j, h1, h2, h3⟩ := ag_at_some hc
      split at e
      · next hi =>
        obtain ⟨g1, g2, g3, g4⟩ := hi
        subst g1
        cases h1
        exact ⟨j, fs, rfl, h2, h3, g2, g3, g4, (Option.some.inj e).symm⟩
      · cases e
    · cases e
  · cases e
theorem ag_narrow {G : ag_G} {ty : FieldType} {w : Value} (h : narrow ty w = w) : narrow ty (ag_v G w) = ag_v G w := by
  cases w <;> first | exact h | (cases ty <;> rfl)
theorem ag_fits {G : ag_G} {ty : FieldType} {w : Value} (h : fits ty w = true) : fits ty (ag_v G w) = true := by
  cases w <;> first | exact h | (cases ty <;> first | rfl | cases h)
theorem ag_one {D : va_G} {cl : List vw_C} {q : Nat × va_E} {H : Heap} (h : va_at D cl q H) : va_P D cl [q] H := by
  intro k x hx
  have hz : k < 1 := (List.getElem?_eq_some_iff.mp hx).1
  rw [show k = 0 by omega] at hx
  cases hx
  exact h
/-- a field that the entry ix of the class own's pool names: the k-th of the class ci; to be read, to be written -/
def ag_fr (P : ag_P) (own : String) (ix ci k : Nat) : Prop :=
  ∃ (C : String) (T : u_T) (N : Nat) (ref : String), P.2.1[ci]? = some (C, T, N) ∧ k < N ∧
    (Cond.fieldLink own ix ref (T k).2.1 (T k).2.2.1 ∈ P.1 ∨ ∃ host : String, Cond.fieldLinkNest own ix ref (T k).2.1 (T k).2.2.1 host ∈ P.1) ∧ ((T k).1 = ref ∨ Cond.sameField ref (T k).1 (T k).2.1 (T k).2.2.1 ∈ P.1)
def ag_fl (P : ag_P) (own : String) (ix ci k : Nat) (ty : FieldType) (fin : Bool) : Prop :=
  ∃ (C : String) (T : u_T) (N : Nat) (ref : String), P.2.1[ci]? = some (C, T, N) ∧ k < N ∧ (T k).2.2.2 = fin ∧ parseFieldDescriptor (T k).2.2.1 = some ty ∧
    (Cond.fieldLink own ix ref (T k).2.1 (T k).2.2.1 ∈ P.1 ∨ ∃ host : String, Cond.fieldLinkNest own ix ref (T k).2.1 (T k).2.2.1 host ∈ P.1) ∧ ((T k).1 = ref ∨ Cond.sameField ref (T k).1 (T k).2.1 (T k).2.2.1 ∈ P.1) ∧ (fin = true → (T k).1 = own)
section AGC
variable {P : ag_P} {l : Launch} {G : ag_G} {M : ag_M} {d : Nat} {Z : ag_Z} {pc : Nat} {lv : ag_L} {st : List Value} {h : ag_H}
theorem ag_getf {ix ci n : Nat} {v w : Value} (hd : decode M.2.1 pc = .ok (.getfield ix, 3)) (hf : ag_fr P M.1.cls ix ci n) (hg : ag_gf h v ci n = some w) (k : ag_ev P l G M d Z (pc + 3) lv (w :: st) h) : ag_ev P l G M d Z pc lv (v :: st) h := by
  intro p e s m args below meth c ls H locs n0 s0 X h0 h1 hl hr hS
  obtain ⟨j, fs, rfl, g1, g2, g3⟩ := ag_gf_some hg
  obtain ⟨C, T, N, ref, f1, f2, f5, f6⟩ := hf
  have hK := X.2.2.2.2.2.2.2
  have hat := hr.2.2.2.2.2 j g1
  rw [g2] at hat
  have hv : (fs.map (ag_v G))[n]? = some (ag_v G w) := by rw [List.getElem?_map, g3]; rfl
  have hsame : ∀ x, s.fieldFound? (T n).1 (T n).2.1 (T n).2.2.1 = some x → s.fieldFound? ref (T n).2.1 (T n).2.2.1 = some x := by
    rcases f6 with f6 | f6
    · rw [f6]; exact fun _ hx => hx
    · exact fun x hx => u_same (hK.hts (args := args) _ f6) x hx
  rcases f5 with f5 | ⟨host, f5⟩
  · exact va_get (D := ag_D G) (cl := P.2.1) X.1 X.2.1 (hK.hts (args := args)) (hK.2.2.1.2.1 ci _ f1).1 X.2.2.2.2.2.1 hK.1 (ag_one hat) 0 rfl f1 n f2 (hK.hts _ f5) hsame hv hd (k p e s m args below meth c ls H locs n0 s0 X h0 h1 hl hr hS)
  · exact va_getN (D := ag_D G) (cl := P.2.1) X.1 X.2.1 (hK.hts (args := args)) (hK.2.2.1.2.1 ci _ f1).1 X.2.2.2.2.2.1 hK.1 (ag_one hat) 0 rfl f1 n f2 (hK.hts _ f5) hsame hv hd (k p e s m args below meth c ls H locs n0 s0 X h0 h1 hl hr hS)
theorem ag_putf {ix ci n : Nat} {ty : FieldType} {fin : Bool} {v w : Value} {h' : ag_H} (hd : decode M.2.1 pc = .ok (.putfield ix, 3)) (hf : ag_fl P M.1.cls ix ci n ty fin) (hin : fin = true → M.1.name = "<init>") (hg : ag_pf h v ci n ty w = some h') (k : ag_ev P l G M d Z (pc + 3) lv st h') : ag_ev P l G M d Z pc lv (w :: v :: st) h := by
  intro p e s m args below meth c ls H locs n0 s0 X h0 h1 hl hr hS
  obtain ⟨j, fs, rfl, g1, g2, g3, g4, g5, rfl⟩ := ag_pf_some hg
  obtain ⟨C, T, N, ref, f1, f2, f3, f4, f5, f6, f7⟩ := hf
  have hK := X.2.2.2.2.2.2.2
  have hat := hr.2.2.2.2.2 j g1
  rw [g2] at hat
  obtain ⟨r, q0, cell, q1, q2, q3, q4⟩ := hat
  have hrr : r = (C, T, N) := Option.some.inj (q0.symm.trans f1)
  subst hrr
  have hts := hK.hts (args := args)
  obtain ⟨hin', ⟨ty0, hty⟩, hnm⟩ := hK.2.2.1.2.1 ci _ f1
  have hap := va_apart (own := M.1.cls) hts hin' ty0 hty hnm hK.1 f1
  obtain ⟨hSl, hfc, kC, hkC, hkind⟩ := hK.1.1 ci _ f1
  obtain ⟨cf, kf, fi, f, hi, hsl⟩ := hSl n f2
  have hst := (u_facts hfc hkC (u_lays hts hin' f2) hi).1
  have hsame : s.fieldFound? ref (T n).2.1 (T n).2.2.1 = some (cf, kf, fi, f) := by
    rcases f6 with f6 | f6
    · rw [← f6]; exact hi
    · exact u_same (hts _ f6) _ hi
  have hlt : f.slot < cell.slots.size := by rw [hsl]; exact k2_hasslot (q4 n f2)
  have hwn : narrow ty (ag_v G w) = ag_v G w := ag_narrow g4
  have hwf : fits ty (ag_v G w) = true := ag_fits g5
  have fin_ : ∀ H' : Heap, H'[ag_sz G + j]? = some (cell.setSlot f.slot (ag_v G w)) → H'.size = H.size → (∀ q, q ≠ ag_sz G + j → H'[q]? = H[q]?) →
      W p l e (ag_rm G d n0 s0) s m args below meth c H' (locs ++ [⟨ag_sz G + j, f.slot⟩]) (h.1 - n0) (h.2.1 - s0) (Z (ag_rm G d n0 s0) below args s) (F0 m (pc + 3) ls (st.map (ag_v G))) := by
    intro H' e1 e2 e3
    have hlf : n < (fs.map (ag_v G)).length := by rw [List.length_map]; exact g3
    have hob : va_at (ag_D G) P.2.1 (ag_sz G + j, ag_e G (.inr (ci, fs.set n w))) H' := by
      refine ⟨_, f1, t_OB.to (V := updV (vp_V (fs.map (ag_v G))) n (ag_v G w)) ⟨_, e1, q2, q3, ?_⟩ (fun i _ => ?_)⟩
      · rw [hsl]
        exact t_set q4 hap f2 (ag_v G w)
      · rw [vp_updV_set hlf, List.map_set]
    exact k p e s m args below meth c ls H' _ n0 s0 X h0 h1 hl (hr.put g1 e2 e3 (by rw [e1, q1]; simp [Cell.setSlot]) hob) (ag_S_put hS e2 e3)
  cases fin with
  | false =>
    have hlay := hts _ (hin' _ (u_in_lay f2))
    unfold u_lay at hlay
    rw [if_neg (by rw [f3]; decide)] at hlay
    have h6 := u_store hfc hkC hkind hlay hi f4 hwn hwf
    rcases f5 with f5 | ⟨host, f5⟩
    · exact W.putK X.1 X.2.1 (f := f) ⟨X.2.2.2.2.2.1, hts _ f5, ⟨_, _, _, hsame⟩, hst⟩ (by rw [q2]; exact h6) q1 q3 hlt rfl rfl hd fin_
    · exact va_WputK X.1 X.2.1 (f := f) X.2.2.2.2.2.1 (hts _ f5) hsame hst (by rw [q2]; exact h6) q1 q3 hlt rfl rfl hd fin_
  | true =>
    have hlay := hts _ (hin' _ (u_in_lay f2))
    unfold u_lay at hlay
    rw [if_pos f3] at hlay
    have hcf : m.cls = cf := by
      obtain ⟨_, _, c', _, _, _, -, -, hf', -, -, -, hown2, -⟩ := Cond.laysFinal_spec hlay
      have e1 : c' = cf := by have := hi.symm.trans hf'; simp at this; exact this.1.symm
      rw [f7 rfl] at hown2
      rw [← e1]; exact Option.some.inj (X.2.2.2.2.2.1.symm.trans hown2)
    have h6 := u_fits hfc hkC hkind (Or.inr hlay) hi f4 hwn hwf
    rcases f5 with f5 | ⟨host, f5⟩
    · exact W.putFinK X.1 X.2.1 X.2.2.2.2.2.1 (hts _ f5) hsame hst hcf (by rw [X.2.2.2.2.2.2.1]; exact hin rfl) (by rw [q2]; exact h6) q1 q3 hlt rfl rfl hd fin_
    · have ha : ag_sz G + j < H.size := (Array.getElem?_eq_some_iff.mp q1).1
      refine va_Wputf X.1 X.2.1 X.2.2.2.2.2.1 (hts _ f5) hsame hst (Or.inr ⟨hcf, by rw [X.2.2.2.2.2.2.1]; exact hin rfl⟩) q1 (by rw [q3]; exact fun h => by cases h) hlt h6.1 (by rw [q2, q3]; exact h6.2) rfl rfl hd (fin_ _ ?_ ?_ ?_)
      · simp [Array.getElem?_setIfInBounds, ha]
      · simp
      · intro q hq
        simp [Array.getElem?_setIfInBounds, Ne.symm hq]
end AGC
