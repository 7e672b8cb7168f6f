/-! ### From the statement's start to the pure heap -/
theorem gs_words {s : State} {b : Nat} (hts : ∀ w ∈ lw_tbl, w.before #[Value.ref b] s = true) (hgv : (Jvm.Cond.and given_1 narrow_1).before #[Value.ref b] s = true) : ∀ w ∈ gc_W, w.before #[Value.ref b] s = true := by
  intro w hw
  rcases List.mem_append.mp hw with h | h
  · exact hts w (List.mem_filter.mp h).1
  · exact flat_of_before _ hgv w (of_decide_eq_true (List.all_eq_true.mp (show gc_nc.all (fun w => decide (w ∈ flatC (Jvm.Cond.and given_1 narrow_1))) = true by decide +kernel) w h))
theorem gs_inst : ∀ q ∈ gc_cl, ∃ n, Cond.instantiable q.1 n ∈ gc_W := List.forall_mem_cons.mpr ⟨⟨_, gw_29⟩, List.forall_mem_cons.mpr ⟨⟨_, gw_37⟩, List.forall_mem_cons.mpr ⟨⟨_, gw_56⟩, List.forall_mem_cons.mpr ⟨⟨_, gw_76⟩, List.forall_mem_cons.mpr ⟨⟨_, gw_82⟩, List.forall_mem_cons.mpr ⟨⟨_, gw_108⟩, List.forall_mem_cons.mpr ⟨⟨_, gw_310⟩, List.forall_mem_cons.mpr ⟨⟨_, gw_456⟩, List.forall_mem_cons.mpr ⟨⟨_, gw_611⟩, List.forall_mem_cons.mpr ⟨⟨_, gw_644⟩, List.forall_mem_cons.mpr ⟨⟨_, gw_936⟩, List.forall_mem_cons.mpr ⟨⟨_, gw_114⟩, List.forall_mem_cons.mpr ⟨⟨_, gw_494⟩, List.forall_mem_cons.mpr ⟨⟨_, gw_573⟩, List.forall_mem_cons.mpr ⟨⟨_, gw_693⟩, List.forall_mem_cons.mpr ⟨⟨_, gw_558⟩, fun _ h => absurd h List.not_mem_nil⟩⟩⟩⟩⟩⟩⟩⟩⟩⟩⟩⟩⟩⟩⟩⟩
theorem gs_D {s : State} {b : Nat} (hw : ∀ w ∈ gc_W, w.before #[Value.ref b] s = true) : ∃ D : va_G, ∀ (c : Nat) (q : vw_C), gc_cl[c]? = some q → u_Kn s q.1 q.2.1 q.2.2 (D.1 c) (D.2 c) := by
  have h : ∀ c : Nat, ∃ x : ClassId × (Nat → Nat), ∀ q : vw_C, gc_cl[c]? = some q → u_Kn s q.1 q.2.1 q.2.2 x.1 x.2 := by
    intro c
    cases e : gc_cl[c]? with
    | none => exact ⟨(0, fun _ => 0), fun q h => by cases h⟩
    | some q =>
      obtain ⟨n, hn⟩ := gs_inst q (List.mem_of_getElem? e)
      obtain ⟨cC, iS, h⟩ := u_known hw (gc_Cl c q e).1 (hw _ hn)
      exact ⟨(cC, iS), fun q' h' => by cases h'; exact h⟩
  obtain ⟨f, hf⟩ := Classical.axiomOfChoice h
  exact ⟨(fun c => (f c).1, fun c => (f c).2), fun c q h => hf c q h⟩
def gs_ty (s : State) (ty : FieldType) : Prop := ∃ cA : ClassId, ArrOfT s cA ty ∧ va_RA s cA ty
theorem gs_ty1 {s : State} {args : Array Value} {ty : FieldType} (h : (Cond.arrayClass ty).before args s = true) (hno : ∀ C, ty ≠ .object C) : gs_ty s ty := by
  obtain ⟨cA, kA, comp, h1, h2, h3⟩ := Cond.arrayClass_spec h
  refine ⟨cA, fun n z => ⟨fun k h => (by cases h), kA, h2, comp, h3⟩, ?_⟩
  cases ty <;> first | exact h1 | exact absurd rfl (hno _)
theorem gs_ty2 {s : State} {args : Array Value} {C : String} (h : (Cond.arrayOver (.object C)).before args s = true) : gs_ty s (.object C) := by
  obtain ⟨comp, cA, kA, h1, -, h2, h3, h4⟩ := Cond.arrayOver_spec h
  exact ⟨cA, fun n z => ⟨fun k h => (by cases h), kA, h2, comp, h3⟩, kA, comp, h2, h3, h1, h4⟩
theorem gs_ty3 {s : State} {args : Array Value} {t : FieldType} (h : (Cond.arrayOver (.array t)).before args s = true) : gs_ty s (.array t) := by
  simp only [Cond.before, Cond.holds, Cond.value, beq_iff_eq] at h
  obtain ⟨comp, hc, h⟩ := Option.bind_eq_some_iff.mp h
  obtain ⟨cA, hi, h⟩ := Option.bind_eq_some_iff.mp h
  obtain ⟨kA, hk, h⟩ := Option.map_eq_some_iff.mp h
  cases hkd : kA.kind with
  | array c2 ty =>
    simp only [hkd, Bool.and_eq_true, decide_eq_true_eq] at h
    obtain ⟨rfl, h4⟩ := h
    exact ⟨cA, fun n z => ⟨fun k h => (by cases h), kA, hk, c2, hkd⟩, h4⟩
  | _ => simp [hkd] at h
theorem gs_tys {s : State} {b : Nat} (hw : ∀ w ∈ gc_W, w.before #[Value.ref b] s = true) : ∃ L : List (ClassId × FieldType), L.map Prod.snd = gc_TY ∧ ∀ (k : Nat) (q : ClassId × FieldType), L[k]? = some q → ArrOfT s q.1 q.2 ∧ va_RA s q.1 q.2 := by
  obtain ⟨c0, h0⟩ := gs_ty1 (hw _ gw_74) (fun C q => by cases q)
  obtain ⟨c1, h1⟩ := gs_ty1 (hw _ gw_54) (fun C q => by cases q)
  obtain ⟨c2, h2⟩ := gs_ty1 (hw _ gw_1080) (fun C q => by cases q)
  obtain ⟨c3, h3⟩ := gs_ty1 (hw _ gw_1297) (fun C q => by cases q)
  obtain ⟨c4, h4⟩ := gs_ty2 (hw _ gw_418)
  obtain ⟨c5, h5⟩ := gs_ty2 (hw _ gw_145)
  obtain ⟨c6, h6⟩ := gs_ty3 (hw _ gw_88)
  refine ⟨[(c0, .int), (c1, .char), (c2, .boolean), (c3, .long), (c4, .object "java/lang/Object"), (c5, .object "GrantChain$Block"), (c6, .array .int)], rfl, fun k q hq => ?_⟩
  have hm := List.mem_of_getElem? hq
  simp only [List.mem_cons, List.not_mem_nil, or_false] at hm
  rcases hm with rfl | rfl | rfl | rfl | rfl | rfl | rfl
  · exact h0
  · exact h1
  · exact h2
  · exact h3
  · exact h4
  · exact h5
  · exact h6
abbrev gs_tm : Term := .static "java/util/ArrayList" "DEFAULTCAPACITY_EMPTY_ELEMENTDATA" "[Ljava/lang/Object;"
theorem gs_len {s : State} {args : Array Value} {tm : Term} (h : (Cond.eq (.length tm) (.int 0)).before args s = true) : (Term.length tm).eval args s none [] s = some (.int (Int32.ofNat 0)) := by
  cases hv : (Term.length tm).eval args s none [] s with
  | none => simp [Cond.before, Cond.holds, Cond.value, hv] at h
  | some w =>
    cases w with
    | int x =>
      have e := Cond.eq_ints hv (show (Term.int 0).eval args s none [] s = some (.int 0) from rfl)
      simp [Cond.before, Cond.holds, e] at h
      rw [h]
      rfl
    | _ =>
      have e : (Term.int 0).eval args s none [] s = some (.int 0) := rfl
      simp [Cond.before, Cond.holds, Cond.value, hv, e] at h
theorem gs_St {s : State} {b : Nat} {A : Nat → Prop} (hts : ∀ w ∈ lw_tbl, w.before #[Value.ref b] s = true) (hgv : (Jvm.Cond.and given_1 narrow_1).before #[Value.ref b] s = true) (hA : ∀ a : Nat, a < s.heap.size → ¬ A a) : ∃ t : Nat, va_Z "java/util/ArrayList" "DEFAULTCAPACITY_EMPTY_ELEMENTDATA" "[Ljava/lang/Object;" (.ref t) A s s.heap ∧ va_T (.object "java/lang/Object") t 0 (fun _ => .null) A s s.heap ∧
    ag_ls "java/lang/Throwable" "UNASSIGNED_STACK" "[Ljava/lang/StackTraceElement;" A s ∧ ag_ls "java/lang/Throwable" "SUPPRESSED_SENTINEL" "Ljava/util/List;" A s := by
  have hs := flat_of_before _ hgv
  obtain ⟨t, h1, h2⟩ := va_Tof (tm := gs_tm) (N := 0) (f := fun _ => .null) (by decide) (hs (Cond.arrayOf gs_tm (.object "java/lang/Object")) (by decide +kernel)) (gs_len (hs (Cond.eq (.length gs_tm) (.int 0)) (by decide +kernel))) (fun j hj => absurd hj (Nat.not_lt_zero j)) hA
  have l1 : (Cond.laysStatic "java/lang/Throwable" "UNASSIGNED_STACK" "[Ljava/lang/StackTraceElement;").before #[Value.ref b] s = true := hts _ (by decide +kernel)
  have l2 : (Cond.laysStatic "java/lang/Throwable" "SUPPRESSED_SENTINEL" "Ljava/util/List;").before #[Value.ref b] s = true := hts _ (by decide +kernel)
  refine ⟨t, va_Zof (hts (Cond.laysStatic "java/util/ArrayList" "DEFAULTCAPACITY_EMPTY_ELEMENTDATA" "[Ljava/lang/Object;") (by decide +kernel)) (hts (Cond.initialized "java/util/ArrayList") (by decide +kernel)) h1 hA, h2, ⟨l1, ?_⟩, ⟨l2, ?_⟩⟩
  · exact va_Zqof l1 (hts (Cond.initialized "java/lang/Throwable") (by decide +kernel)) (hs (Cond.isRef (.static "java/lang/Throwable" "UNASSIGNED_STACK" "[Ljava/lang/StackTraceElement;")) (by decide +kernel)) hA
  · exact va_Zqof l2 (hts (Cond.initialized "java/lang/Throwable") (by decide +kernel)) (hs (Cond.isRef (.static "java/lang/Throwable" "SUPPRESSED_SENTINEL" "Ljava/util/List;")) (by decide +kernel)) hA
theorem gs_room {s : State} {pl : Platform} {r r' : Room} (h : s.hasRoom pl r = true) (h1 : r'.frames ≤ r.frames) (h2 : r'.cells ≤ r.cells) (h3 : r'.slots ≤ r.slots) (h4 : r'.locals ≤ r.locals) : s.hasRoom pl r' = true := by
  simp only [State.hasRoom, Bool.and_eq_true, decide_eq_true_eq] at h ⊢
  obtain ⟨⟨⟨⟨a1, a2, a3, a4, a5, a6⟩, a7⟩, a8⟩, a9⟩ := h
  exact ⟨⟨⟨⟨by omega, by omega, by omega, by omega, by omega, a6⟩, by omega⟩, by omega⟩, a9⟩
theorem gs_sum (H : Heap) : ag_sum H.size H = 0 := by
  unfold ag_sum
  rw [List.drop_eq_nil_of_le (by simp)]
  rfl
/-- at the law's entry: what the walk of the pure heap needs -/
def gs_At (p : Program) (s : State) (m : MethodId) (meth : Method) (c : Code) (b L : Nat) (xs : Nat → Int32) : Prop :=
  p.tables.exec = Jvm.exec ∧ c.code = code ∧ meth.sig.returnType = ret ∧ c.maxLocals = 7 ∧ s.vm.findClass "GrantChainLaw" = some m.cls ∧ (∀ w ∈ lw_tbl, w.before #[Value.ref b] s = true) ∧ va_X b L xs s s.heap ∧ b < s.heap.size ∧ meth.locks = false ∧ (Jvm.Cond.and given_1 narrow_1).before #[Value.ref b] s = true ∧
  (c.exceptionTable.toList.map (fun x => (x.startPc, x.endPc, x.handlerPc, x.catchType)) = [] ∧ meth.name = "law")
theorem gs_start {p : Program} {e : Env} {s : State} {m : MethodId} {below : List Frame} {meth : Method} {c : Code} {l : Launch} {b L : Nat} {xs : Nat → Int32} (C0 : gs_At p s m meth c b L xs)
    (hev : ∀ G : ag_G, ag_Ln G = L → ag_xs G = xs → (ag_cN G = gx_C.1 ∧ ag_cS G = gx_C.2) → ag_ev gc_P l G m_law (60 + 1 + 1) (ag_ret gc_P G (fun v _ => v = some (.int 1))) 0 [(0, .ref 0)] [] gx_h0) :
    ∀ T : State, T.heap = s.heap → Stand p l e room_1 s m #[Value.ref b] below meth c T [] 0 0 → ∃ t, Steps p.tables e below (T.setTop (entryFrame m ([Value.ref b] : List Value).toArray 7)) t ∧ ∃ oc, t.status = .running ∧ Ended t below oc ∧ oc = .returned (some (.int 1)) ∧ Framed s oc t [] 601024 7293034 := by
  obtain ⟨hx, hb, hr, hml, hown, hts, hX, hbl, hlk, hgv, hnh, hnm⟩ := C0
  have hw := gs_words hts hgv
  obtain ⟨D, hD⟩ := gs_D hw
  obtain ⟨tys, ht1, ht2⟩ := gs_tys hw
  obtain ⟨e0, z1, z2, z3, z4⟩ := gs_St (A := fun q => s.heap.size ≤ q) hts hgv (fun a h q => Nat.not_le.mpr h q)
  intro T hT X1
  have hK : ag_Kn gc_P ((D, tys), (s.heap.size, b, e0), (L, xs), gx_C) s := ⟨⟨hD, ht2⟩, fun w h => (gc_ok w h).1 #[Value.ref b] #[] s (hw w h), ⟨gc_ok, gc_Cl, ht1⟩, hX, ⟨⟨hbl, va_Mi.of (flat_of_before _ hgv (Cond.isRef (.mirror "[Ljava/lang/Object;")) (by decide +kernel))⟩, Nat.le_refl _⟩, z1, z2, z3, z4⟩
  have X : ag_X gc_P ((D, tys), (s.heap.size, b, e0), (L, xs), gx_C) m_law p s m meth c := ⟨hx, hb, hml, hr, ⟨hlk, hnh, fun q cell h1 h2 => by rw [Array.getElem?_eq_none h1] at h2; cases h2⟩, hown, hnm, hK⟩
  have hl := lv_entry (([Value.ref 0] : List Value).map (ag_v ((D, tys), (s.heap.size, b, e0), (L, xs), gx_C))) (n := 7) (Nat.le_of_ble_eq_true rfl)
  have he : entryFrame m ([Value.ref b] : List Value).toArray 7 = entryFrame m (([Value.ref 0] : List Value).map (ag_v ((D, tys), (s.heap.size, b, e0), (L, xs), gx_C))).toArray 7 := rfl
  rw [he, lg_entry_eq]
  generalize (lg_sl (([Value.ref 0] : List Value).map (ag_v ((D, tys), (s.heap.size, b, e0), (L, xs), gx_C))) ++ List.replicate (7 - (lg_sl (([Value.ref 0] : List Value).map (ag_v ((D, tys), (s.heap.size, b, e0), (L, xs), gx_C)))).length) Slot.unset).toArray = ls at hl ⊢
  rw [ag_largs] at hl
  have hk := hev ((D, tys), (s.heap.size, b, e0), (L, xs), gx_C) rfl rfl ⟨rfl, rfl⟩ p e s m #[Value.ref b] below meth c ls s.heap [] 2 0 X rfl (gs_sum _) hl ⟨by decide, rfl, gs_sum _, (show 2 ≤ 601026 by decide), (show 0 ≤ 7293034 by decide), fun k hk => absurd hk (by show ¬ k + 2 < 2; omega)⟩ va_S.rf
  have X2 : Stand p l e (ag_rm ((D, tys), (s.heap.size, b, e0), (L, xs), gx_C) (60 + 1 + 1) 2 0) s m #[Value.ref b] below meth c T [] 0 0 := { X1 with room := gs_room X1.room (show 60 + 1 + 1 + 8 ≤ 2048 by decide) (show 601026 - 2 ≤ 601024 by decide) (show 7293034 - 0 ≤ 7293034 by decide) (show 60 * (60 + 1 + 1) + 200 ≤ 84000 by decide) }
  obtain ⟨t, a1, oc, b1, b2, ⟨v, h', rfl, rfl, -, -⟩, L', ⟨f1, f2, f3⟩, hLf⟩ := hk T hT X2
  exact ⟨t, a1, _, b1, b2, rfl, ⟨_, rfl⟩, f2, f3.weaken (fun y hy hlt => absurd hlt (Nat.not_lt.mpr (hLf y hy))) (Nat.le_refl _) (Nat.le_refl _)⟩
