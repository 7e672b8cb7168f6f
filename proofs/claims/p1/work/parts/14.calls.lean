/-! ### Returns, contracts, calls -/
def ag_Qc (P : ag_P) (G : ag_G) (Q : Option Value → ag_H → Prop) : Array Value → State → Outcome → State → Prop := fun _ st oc t =>
  ∃ (v : Option Value) (h' : ag_H), oc = .returned (v.map (ag_v G)) ∧ Q v h' ∧ ag_R P G h' t.heap ∧ va_F (ag_A G) st t
def ag_ret (P : ag_P) (G : ag_G) (Q : Option Value → ag_H → Prop) : ag_Z := fun R below args s => MQ below (ag_Qc P G Q) args s R.cells R.slots (ag_A G)
section AGR
variable {P : ag_P} {l : Launch} {G : ag_G} {M : ag_M} {d : Nat} {pc : Nat} {lv : ag_L} {h : ag_H} {Q : Option Value → ag_H → Prop}
theorem ag_iret {x : Int32} {ty : FieldType} (hd : decode M.2.1 pc = .ok (.ireturn, 1)) (hm : M.2.2.2.1 = some ty) (hn : narrow ty (.int x) = .int x) (q : Q (some (.int x)) h) : ag_ev P l G M d (ag_ret P G Q) pc lv [.int x] h := by
  intro p e s m args below meth c ls H locs n0 s0 X h0 h1 hl hr hS
  have hk := hr.2.2.2
  refine W.widen (k := (ag_rm G d n0 s0).cells) (n := (ag_rm G d n0 s0).slots) (show h.1 - n0 ≤ ag_cN G - n0 by omega) (show h.2.1 - s0 ≤ ag_cS G - s0 by omega) ?_
  exact W.zret X.1 X.2.1 (X.2.2.2.1.trans hm) hn (fun t ht _ => ⟨some (.int x), h, rfl, q, by rw [ht]; exact hr, hS.F ht⟩) hS.2.2 hd X.2.2.2.2.1.1
theorem ag_lret {x : Int64} (hd : decode M.2.1 pc = .ok (.lreturn, 1)) (hm : M.2.2.2.1 = some .long) (q : Q (some (.long x)) h) : ag_ev P l G M d (ag_ret P G Q) pc lv [.long x] h := by
  intro p e s m args below meth c ls H locs n0 s0 X h0 h1 hl hr hS
  have hk := hr.2.2.2
  refine W.widen (k := (ag_rm G d n0 s0).cells) (n := (ag_rm G d n0 s0).slots) (show h.1 - n0 ≤ ag_cN G - n0 by omega) (show h.2.1 - s0 ≤ ag_cS G - s0 by omega) ?_
  exact W.lret X.1 X.2.1 (X.2.2.2.1.trans hm) (fun t ht _ => ⟨some (.long x), h, rfl, q, by rw [ht]; exact hr, hS.F ht⟩) hS.2.2 hd X.2.2.2.2.1.1
theorem ag_aret {v : Value} {ty : FieldType} (hd : decode M.2.1 pc = .ok (.areturn, 1)) (hm : M.2.2.2.1 = some ty) (hty : (∃ n, ty = .object n) ∨ ∃ t, ty = .array t) (hv : ag_ir v = true) (q : Q (some v) h) : ag_ev P l G M d (ag_ret P G Q) pc lv [v] h := by
  intro p e s m args below meth c ls H locs n0 s0 X h0 h1 hl hr hS
  have hk := hr.2.2.2
  have hv' : ag_v G v = .null ∨ ∃ a, ag_v G v = .ref a := by
    cases v <;> first | cases hv | skip
    · exact Or.inl rfl
    · exact Or.inr ⟨_, rfl⟩
  refine W.widen (k := (ag_rm G d n0 s0).cells) (n := (ag_rm G d n0 s0).slots) (show h.1 - n0 ≤ ag_cN G - n0 by omega) (show h.2.1 - s0 ≤ ag_cS G - s0 by omega) ?_
  exact W.aret X.1 X.2.1 (X.2.2.2.1.trans hm) hty hv' (fun t ht _ => ⟨some v, h, rfl, q, by rw [ht]; exact hr, hS.F ht⟩) hS.2.2 hd X.2.2.2.2.1.1
theorem ag_vret (hd : decode M.2.1 pc = .ok (.return_, 1)) (hm : M.2.2.2.1 = none) (q : Q none h) : ag_ev P l G M d (ag_ret P G Q) pc lv [] h := by
  intro p e s m args below meth c ls H locs n0 s0 X h0 h1 hl hr hS
  have hk := hr.2.2.2
  refine W.widen (k := (ag_rm G d n0 s0).cells) (n := (ag_rm G d n0 s0).slots) (show h.1 - n0 ≤ ag_cN G - n0 by omega) (show h.2.1 - s0 ≤ ag_cS G - s0 by omega) ?_
  exact W.vret X.1 X.2.1 (X.2.2.2.1.trans hm) (fun t ht _ => ⟨none, h, rfl, q, by rw [ht]; exact hr, hS.F ht⟩) hS.2.2 hd X.2.2.2.2.1.1
end AGR
/-- a method's contract over the pure heap -/
abbrev ag_Pc (P : ag_P) (G : ag_G) (as : List Value) (h : ag_H) : Array Value → State → Prop := va_Pc (as.map (ag_v G)) (fun U => ag_Kn P G U ∧ ag_R P G h U.heap)
def ag_Met (P : ag_P) (l : Launch) (G : ag_G) (M : ag_M) (d : Nat) (as : List Value) (h : ag_H) (Q : Option Value → ag_H → Prop) : Prop :=
  Met l M.1 [Cond.code M.1 M.2.1 M.2.2.1 M.2.2.2.1] (ag_rm G d h.1 h.2.1) (ag_Pc P G as h) (ag_Qc P G Q) (ag_cN G - h.1) (ag_cS G - h.2.1) (ag_A G)
theorem ag_slen (G : ag_G) (vs : List Value) : (lg_sl (vs.map (ag_v G))).length = (lg_sl vs).length := by
  induction vs with
  | nil => rfl
  | cons v vs ih =>
    simp only [lg_sl, List.map_cons, List.flatMap_cons, List.length_append, ag_v_cat] at ih ⊢
    rw [ih]
    split <;> rfl
theorem ag_largs (G : ag_G) (vs : List Value) : ∀ i : Nat, lv_args i (vs.map (ag_v G)) = ag_lm G (lv_args i vs) := by
  induction vs with
  | nil => intro i; rfl
  | cons v vs ih =>
    intro i
    simp only [List.map_cons, lv_args, ag_v_cat, ih, ag_lm]
theorem ag_blind (P : ag_P) (G : ag_G) (as : List Value) (h : ag_H) : FrameBlind (ag_Pc P G as h) := by
  intro a U g mk q
  obtain ⟨q1, q2, q3⟩ := q
  exact ⟨q1, q2.to (U := U.calling g mk a) (locs := []) (State.WarmedH.refl U) va_S.rf, q3⟩
section AGM
variable {P : ag_P} {l : Launch} {G : ag_G} {M Y : ag_M} {d : Nat} {Z : ag_Z} {pc : Nat} {lv : ag_L} {st as : List Value} {h : ag_H} {Q : Option Value → ag_H → Prop}
theorem ag_met (hy : plainName M.1.cls = true) (hh : M.2.2.2.2 = []) (hn : (lg_sl as).length ≤ M.2.2.1) (k : ag_ev P l G M d (ag_ret P G Q) 0 (lv_args 0 as) [] h) : ag_Met P l G M d as h Q := by
  refine Met.ofW (cc := M.2.1) (maxL := M.2.2.1) (ret := M.2.2.2.1) hy rfl ?_
  intro p e s m args below meth c s₁ B hml hv
  obtain ⟨rfl, hK, hR⟩ := hv
  have htab : c.exceptionTable.toList.map (fun x => (x.startPc, x.endPc, x.handlerPc, x.catchType)) = M.2.2.2.2 := by
    have hno := B.noHandlers (atoms_spec (ws := [Cond.code M.1 M.2.1 M.2.2.1 M.2.2.2.1]) B.pre _ (List.mem_singleton.mpr rfl))
    rw [hh, Array.isEmpty_iff.mp hno]
    rfl
  have X : ag_X P G M p s m meth c := ⟨B.exec, B.bytes, hml, B.returns, ⟨B.notSynchronized, htab, hR.ns⟩, findClass_of_methodNamed B.named, (name_of_methodNamed B.named B.method).1, hK⟩
  have hl := lv_entry (as.map (ag_v G)) (n := M.2.2.1) (by rw [ag_slen]; exact hn)
  rw [lg_entry_eq]
  generalize (lg_sl (as.map (ag_v G)) ++ List.replicate (M.2.2.1 - (lg_sl (as.map (ag_v G))).length) Slot.unset).toArray = ls at hl ⊢
  rw [ag_largs] at hl
  have hk := k p e s m (as.map (ag_v G)).toArray below meth c ls s.heap [] h.1 h.2.1 X hR.2.1 hR.2.2.1 hl hR va_S.rf
  rw [Nat.sub_self, Nat.sub_self] at hk
  exact hk
theorem ag_met_imp {Q' : Option Value → ag_H → Prop} (hM : ag_Met P l G M d as h Q) (hi : ∀ v h', Q v h' → Q' v h') : ag_Met P l G M d as h Q' := by
  intro p e hA hC hK s m args below hf happ hP hk
  obtain ⟨n, o, h1, h2, h3, ⟨v, h', g1, g2, g3⟩, h5⟩ := hM p e hA hC hK s m args below hf happ hP hk
  exact ⟨n, o, h1, h2, h3, ⟨v, h', g1, hi v h' g2, g3⟩, h5⟩
end AGM
section AGV
variable {p : Program} {l : Launch} {e : Env} {R : Room} {s : State} {m : MethodId} {args : Array Value} {below : List Frame} {meth : Method} {c : Code} {H : Heap} {locs : List Loc} {cells slots mc ms : Nat} {Qf : State → Prop}
variable {P : ag_P} {G : ag_G} {Q : Option Value → ag_H → Prop} {pc : Nat} {ls : Array Slot} {rest st0 : List Value} {a : Array Value}
theorem ag_after (hr : va_Run p l e R s m args below meth c H locs cells slots mc ms (F0 m pc ls st0) rest (ag_Qc P G Q a) (ag_A G)) (hS : va_S (ag_A G) s.heap H locs)
    (kk : ∀ (v : Option Value) (h' : ag_H) (H1 : Heap) (locs1 : List Loc), Q v h' → ag_R P G h' H1 → va_S (ag_A G) s.heap H1 locs1 → W p l e R s m args below meth c H1 locs1 (cells + mc) (slots + ms) Qf (F0 m (pc + 3) ls ((v.map (ag_v G)).toList ++ rest))) : W p l e R s m args below meth c H locs cells slots Qf (F0 m pc ls st0) := by
  intro T hT X
  obtain ⟨v, st₀, t, T', L, h0, X', hL, e1, e2, ⟨v', h', hv, hq, hR, hz, hk⟩, st⟩ := hr T hT X
  cases hv
  rw [h0] at hz hk
  obtain ⟨t2, a1, b1⟩ := kk v' h' T'.heap (locs ++ L) hq (by rw [e1]; exact hR)
    ⟨Nat.le_trans hS.1 (by rw [e1]; exact hz), fun q h1 h2 => by rw [e1, hk q (Nat.lt_of_lt_of_le h1 hS.1) h2]; exact hS.2.1 q h1 h2, fun q hq => by
      rcases List.mem_append.mp hq with h | h
      · exact hS.2.2 q h
      · exact hL q h⟩ T' rfl X'
  exact ⟨t2, st t2 a1, b1⟩
theorem ag_after5 (hr : va_Run5 p l e R s m args below meth c H locs cells slots mc ms (F0 m pc ls st0) rest (ag_Qc P G Q a) (ag_A G)) (hS : va_S (ag_A G) s.heap H locs)
    (kk : ∀ (v : Option Value) (h' : ag_H) (H1 : Heap) (locs1 : List Loc), Q v h' → ag_R P G h' H1 → va_S (ag_A G) s.heap H1 locs1 → W p l e R s m args below meth c H1 locs1 (cells + mc) (slots + ms) Qf (F0 m (pc + 5) ls ((v.map (ag_v G)).toList ++ rest))) : W p l e R s m args below meth c H locs cells slots Qf (F0 m pc ls st0) := by
  intro T hT X
  obtain ⟨v, st₀, t, T', L, h0, X', hL, e1, e2, ⟨v', h', hv, hq, hR, hz, hk⟩, st⟩ := hr T hT X
  cases hv
  rw [h0] at hz hk
  obtain ⟨t2, a1, b1⟩ := kk v' h' T'.heap (locs ++ L) hq (by rw [e1]; exact hR)
    ⟨Nat.le_trans hS.1 (by rw [e1]; exact hz), fun q h1 h2 => by rw [e1, hk q (Nat.lt_of_lt_of_le h1 hS.1) h2]; exact hS.2.1 q h1 h2, fun q hq => by
      rcases List.mem_append.mp hq with h | h
      · exact hS.2.2 q h
      · exact hL q h⟩ T' rfl X'
  exact ⟨t2, st t2 a1, b1⟩
end AGV
theorem ag_ovm (G : ag_G) (v : Option Value) (st : List Value) : (v.map (ag_v G)).toList ++ st.map (ag_v G) = (v.toList ++ st).map (ag_v G) := by cases v <;> rfl
theorem ag_catsum (G : ag_G) (st : List Value) : ((st.map (ag_v G)).map fun v => v.category).sum = (st.map fun v => v.category).sum := by
  rw [List.map_map]
  congr 1
  apply List.map_congr_left
  intro v _
  exact ag_v_cat G v
/-- the method Y that the entry ix of the class own's pool names (x: as it is named there), with n parameters -/
def ag_ml (P : ag_P) (own : String) (ix : Nat) (Y : ag_M) (n : Nat) : Prop :=
  (Cond.methodLink own ix Y.1 ∈ P.1 ∨ ∃ host : String, Cond.methodLinkNest own ix Y.1 host ∈ P.1) ∧ Cond.initialized Y.1.cls ∈ P.1 ∧ Cond.code Y.1 Y.2.1 Y.2.2.1 Y.2.2.2.1 ∈ P.1 ∧
    (Y.1.cls ≠ "java/lang/invoke/MethodHandle" ∧ Y.1.cls ≠ "java/lang/invoke/VarHandle") ∧ (parseMethodDescriptor Y.1.desc).map (fun d => d.parameters.length) = some n ∧ Y.2.2.1 ≤ 41
section AGK
variable {P : ag_P} {l : Launch} {G : ag_G} {M Y : ag_M} {d : Nat} {Z : ag_Z} {pc : Nat} {lv : ag_L} {st as : List Value} {h : ag_H} {Q : Option Value → ag_H → Prop}
theorem ag_words {s : State} (hK : ag_Kn P G s) {w : Cond} (hw : w ∈ P.1) : ∀ w' ∈ [w], ∀ (a' : Array Value) (U : State), s.WarmedH U.vm → w'.before a' U = true := by
  intro w' hw' a' U hW
  rw [List.mem_singleton.mp hw']
  have hb := hK.2.2.1.1 w hw
  exact hb.1 #[] a' U (hb.2 s U hW (hK.2.1 w hw))
theorem ag_lenOf {Y : ag_M} {n : Nat} (h : (parseMethodDescriptor Y.1.desc).map (fun d => d.parameters.length) = some n) : ∀ sig, parseMethodDescriptor Y.1.desc = some sig → n = sig.parameters.length := by
  intro sig hs
  rw [hs] at h
  exact (Option.some.inj h).symm
theorem ag_calls {ix : Nat} (hd : decode M.2.1 pc = .ok (.invokestatic ix, 3)) (hl : ag_ml P M.1.cls ix Y as.length) (hst : Cond.static Y.1 ∈ P.1) (hw : (st.map fun v => v.category).sum ≤ 8) (hM : ag_Met P l G Y d as h Q)
    (k : ∀ v h', Q v h' → ag_ev P l G M (d + 1) Z (pc + 3) lv (v.toList ++ st) h') : ag_ev P l G M (d + 1) Z pc lv (as.reverse ++ st) h := by
  intro p e s m args below meth c ls H locs n0 s0 X h0 h1 hlv hr hS
  obtain ⟨g1, g2, g3, g4, g5, g6⟩ := hl
  have hK := X.2.2.2.2.2.2.2
  have hts := hK.hts (args := args)
  have hz := hK.2.2.2.2.1.2
  have hle := hS.1
  refine ag_leW h1 hz hr.2.2.1 fun hs01 => ?_
  have hr2 := hr.2.1
  have hr4 := hr.2.2.2
  have hfr : (ag_rm G d h.1 h.2.1).frames + 1 ≤ (ag_rm G (d + 1) n0 s0).frames := by show d + 8 + 1 ≤ d + 1 + 8; omega
  have hlo : 8 + (Y.2.2.1 + 11) + (ag_rm G d h.1 h.2.1).locals ≤ (ag_rm G (d + 1) n0 s0).locals := by show 8 + (Y.2.2.1 + 11) + (60 * d + 200) ≤ 60 * (d + 1) + 200; omega
  have hf : h.1 - n0 + (ag_cN G - h.1) ≤ (ag_rm G (d + 1) n0 s0).cells ∧ h.2.1 - s0 + (ag_cS G - h.2.1) ≤ (ag_rm G (d + 1) n0 s0).slots := by
    refine ⟨?_, ?_⟩
    · show _ ≤ ag_cN G - n0; omega
    · show _ ≤ ag_cS G - s0; omega
  have hp : PreS s H (ag_Pc P G as h) (as.map (ag_v G)) := ⟨ag_blind P G as h, fun U hU hW => ⟨rfl, hK.to hW (by rw [hU]; exact hS), by rw [hU]; exact hr⟩⟩
  have hstk : (F0 m pc ls ((as.reverse ++ st).map (ag_v G))).stack = (as.map (ag_v G)).reverse ++ st.map (ag_v G) := by
    show (as.reverse ++ st).map (ag_v G) = _
    rw [List.map_append, List.map_reverse]
  have hwt := lv_room (m := m) (pc := pc) (ls := ls) (rest := (as.reverse ++ st).map (ag_v G)) (st := st.map (ag_v G)) (by rw [ag_catsum]; exact hw)
  have go : va_Run p l e (ag_rm G (d + 1) n0 s0) s m args below meth c H locs (h.1 - n0) (h.2.1 - s0) (ag_cN G - h.1) (ag_cS G - h.2.1) (F0 m pc ls ((as.reverse ++ st).map (ag_v G))) (st.map (ag_v G)) (ag_Qc P G Q (as.map (ag_v G)).toArray) (ag_A G) := by
    rcases g1 with g1 | ⟨host, g1⟩
    · exact va_runS (Ts := P.1) (n := as.length) ⟨X.1, X.2.1, X.2.2.1, X.2.2.2.2.2.1, hts⟩ hM ⟨⟨rfl, rfl, hfr, hlo, ag_words hK g3, List.mem_singleton.mpr rfl, hts _ g3, hts _ g2, g4, ag_lenOf g5, hts _ g1⟩, hts _ hst⟩ hp rfl (by rw [List.length_map]) hlv.1 hstk hwt hd hf
    · exact va_runSN (Ts := P.1) (n := as.length) ⟨X.1, X.2.1, X.2.2.1, X.2.2.2.2.2.1, hts⟩ hM ⟨⟨⟨rfl, rfl, hfr, hlo, ag_words hK g3, List.mem_singleton.mpr rfl⟩, hts _ g3, hts _ g2, g4, ag_lenOf g5, hts _ g1⟩, hts _ hst, trivial⟩ hp rfl (by rw [List.length_map]) hlv.1 hstk hwt hd hf
  refine ag_after go hS fun v h' H1 locs1 hq hR hS1 => ?_
  refine ag_tightW h0 h1 hz hR.2.1 hR.2.2.1 ?_
  rw [ag_ovm]
  exact k v h' hq p e s m args below meth c ls H1 locs1 n0 s0 X h0 h1 hlv hR hS1
end AGK
