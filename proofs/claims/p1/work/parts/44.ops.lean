/-! ### References as numbers or none: what the class's methods do with the pure heap -/
theorem ag_ir_rf (r : Option Nat) : ag_ir (ag_rf r) = true := by cases r <;> rfl
theorem ag_cat_rf (r : Option Nat) : (ag_rf r).category = 1 := by cases r <;> rfl
def ag_gi (h : ag_H) (r : Option Nat) (ci k : Nat) : Option Int32 := match ag_gf h (ag_rf r) ci k with
  | some (.int x) => some x
  | _ => none
theorem ag_gi_ok {h : ag_H} {r : Option Nat} {ci k : Nat} {x : Int32} (e : ag_gi h r ci k = some x) : ag_gf h (ag_rf r) ci k = some (.int x) := by
  unfold ag_gi at e
  split at e
  · next y hy => rw [hy, Option.some.inj e]
  · cases e
def ag_gr (h : ag_H) (r : Option Nat) (ci k : Nat) : Option (Option Nat) := match ag_gf h (ag_rf r) ci k with
  | some .null => some none
  | some (.ref a) => some (some a)
  | _ => none
theorem ag_gr_ok {h : ag_H} {r w : Option Nat} {ci k : Nat} (e : ag_gr h r ci k = some w) : ag_gf h (ag_rf r) ci k = some (ag_rf w) := by
  unfold ag_gr at e
  split at e
  · next hy => rw [hy, ← Option.some.inj e]; rfl
  · next a hy => rw [hy, ← Option.some.inj e]; rfl
  · cases e
theorem ag_at_rf {h : ag_H} {r : Option Nat} {c : ag_C} (e : ag_at h (ag_rf r) = some c) : ∃ a, r = some a ∧ ag_at h (.ref a) = some c := by
  cases r with
  | none => cases e
  | some a => exact ⟨a, rfl, e⟩
/-- the object that r names is of the class ci: its number -/
def ag_rc (h : ag_H) (r : Option Nat) (ci : Nat) : Option Nat := match ag_at h (ag_rf r) with
  | some (.inr (c, _)) => if c = ci then r else none
  | _ => none
theorem ag_rc_ok {h : ag_H} {r : Option Nat} {ci a : Nat} (e : ag_rc h r ci = some a) : r = some a ∧ ∃ fs, ag_at h (.ref a) = some (.inr (ci, fs)) := by
  unfold ag_rc at e
  split at e
  · next c fs hc =>
    split at e
    · next hci =>
      subst hci
      subst e
      exact ⟨rfl, fs, hc⟩
    · cases e
  · cases e
def ag_ai (h : ag_H) (t : Nat) (r : Option Nat) : Option (Nat × (Nat → Int32)) := match ag_at h (ag_rf r) with
  | some (.inl (t', n, .inl f)) => if t' = t then some (n, f) else none
  | _ => none
theorem ag_ai_ok {h : ag_H} {t : Nat} {r : Option Nat} {p : Nat × (Nat → Int32)} (e : ag_ai h t r = some p) : ∃ a, r = some a ∧ ag_at h (.ref a) = some (.inl (t, p.1, .inl p.2)) := by
  unfold ag_ai at e
  split at e
  · next t' n f hc =>
    split at e
    · next ht =>
      subst ht
      cases e
      exact ag_at_rf hc
    · cases e
  · cases e
def ag_ao (h : ag_H) (r : Option Nat) : Option (Nat × (Nat → Option Nat)) := match ag_at h (ag_rf r) with
  | some (.inl (t, n, .inr (.inr (.inr (.inr f))))) => if t = 4 ∨ t = 5 ∨ t = 6 then some (n, f) else none
  | _ => none
theorem ag_ao_ok {h : ag_H} {r : Option Nat} {p : Nat × (Nat → Option Nat)} (e : ag_ao h r = some p) : ∃ a t, r = some a ∧ (t = 4 ∨ t = 5 ∨ t = 6) ∧ ag_at h (.ref a) = some (.inl (t, p.1, .inr (.inr (.inr (.inr p.2))))) := by
  unfold ag_ao at e
  split at e
  · next t n f hc =>
    split at e
    · next ht =>
      cases e
      obtain ⟨a, h1, h2⟩ := ag_at_rf hc
      exact ⟨a, t, h1, ht, h2⟩
    · cases e
  · cases e
/-- may an object of the class ci stand in an array of the type t? -/
def ag_cok (t ci : Nat) : Bool := (t == 4 && decide (ci ≤ 10)) || (t == 5 && ci == 5)
def ag_as (h : ag_H) (r : Option Nat) (i : Int32) (w : Option Nat) : Option ag_H := match ag_at h (ag_rf r) with
  | some (.inl (t, n, .inr (.inr (.inr (.inr f))))) => if (t = 4 ∨ t = 5) ∧ md_in i n = true then (match w with
    | none => some (ag_up h (r.getD 0) (.inl (t, n, .inr (.inr (.inr (.inr (va_up f i.toNatClampNeg none)))))))
    | some b => (match ag_at h (.ref b) with
      | some (.inr (ci, _)) => if ag_cok t ci = true then some (ag_up h (r.getD 0) (.inl (t, n, .inr (.inr (.inr (.inr (va_up f i.toNatClampNeg (some b)))))))) else none
      | _ => none)) else none
  | _ => none
theorem ag_as_ok {h h' : ag_H} {r w : Option Nat} {i : Int32} (e : ag_as h r i w = some h') : ∃ a t n f, r = some a ∧ (t = 4 ∨ t = 5) ∧ md_in i n = true ∧ ag_at h (.ref a) = some (.inl (t, n, .inr (.inr (.inr (.inr f))))) ∧ h' = ag_up h a (.inl (t, n, .inr (.inr (.inr (.inr (va_up f i.toNatClampNeg w)))))) ∧ (w = none ∨ ∃ b ci fs, w = some b ∧ ag_at h (.ref b) = some (.inr (ci, fs)) ∧ ag_cok t ci = true) := by
  unfold ag_as at e
  split at e
  · next t n f hc =>
    obtain ⟨a, rfl, h2⟩ := ag_at_rf hc
    split at e
    · next hi =>
      split at e
      · exact ⟨a, t, n, f, rfl, hi.1, hi.2, h2, (Option.some.inj e).symm, Or.inl rfl⟩
      · next b =>
        split at e
        · next ci fs hb =>
          split at e
          · next hk => exact ⟨a, t, n, f, rfl, hi.1, hi.2, h2, (Option.some.inj e).symm, Or.inr ⟨b, ci, fs, rfl, hb, hk⟩⟩
          · cases e
        · cases e
    · cases e
  · cases e
def ag_le (h : ag_H) (r : Option Nat) : Option Int32 := match r with
  | some 1 => some 0
  | some 0 => none
  | _ => match ag_at h (ag_rf r) with
    | some (.inl (t, x)) => if t ≤ 6 then some (Int32.ofNat x.1) else none
    | _ => none
/-- a cast to the class ci holds: null, or an object of just that class -/
def ag_ck (h : ag_H) (r : Option Nat) (ci : Nat) : Bool := match r with
  | none => true
  | some a => match ag_at h (.ref a) with
    | some (.inr (c, _)) => c == ci
    | _ => false
theorem ag_ck_ok {h : ag_H} {r : Option Nat} {ci : Nat} (e : ag_ck h r ci = true) : r = none ∨ ∃ a fs, r = some a ∧ ag_at h (.ref a) = some (.inr (ci, fs)) := by
  cases r with
  | none => exact Or.inl rfl
  | some a =>
    refine Or.inr ?_
    simp only [ag_ck] at e
    split at e
    · next c fs hc =>
      have := eq_of_beq e
      subst this
      exact ⟨a, fs, rfl, hc⟩
    · cases e
/-- how a method of the class ends: with a number, or with an exception -/
def ag_out (P : ag_P) (G : ag_G) (o : Int32 ⊕ Nat) (h' : ag_H) : ag_Z := match o with
  | .inl v => ag_ret P G (fun v' h'' => v' = some (.int v) ∧ h'' = h')
  | .inr x => ag_thr P G (fun x' h'' => x' = x ∧ h'' = h')
section GCR
variable {l : Launch} {G : ag_G} {M Y : ag_M} {d : Nat} {Z : ag_Z} {pc : Nat} {lv : ag_L} {st as : List Value} {h : ag_H} {C : Nat × Nat} {Q : Option Value → ag_H → Prop}
theorem gc_geti {ix ci n : Nat} {r : Option Nat} {x : Int32} (hd : decode M.2.1 pc = .ok (.getfield ix, 3)) (hf : ag_fr gc_P M.1.cls ix ci n) (hg : ag_gi h r ci n = some x) (k : ag_ev gc_P l G M d Z (pc + 3) lv (.int x :: st) h) : ag_ev gc_P l G M d Z pc lv (ag_rf r :: st) h := ag_getf hd hf (ag_gi_ok hg) k
theorem gc_getr {ix ci n : Nat} {r w : Option Nat} (hd : decode M.2.1 pc = .ok (.getfield ix, 3)) (hf : ag_fr gc_P M.1.cls ix ci n) (hg : ag_gr h r ci n = some w) (k : ag_ev gc_P l G M d Z (pc + 3) lv (ag_rf w :: st) h) : ag_ev gc_P l G M d Z pc lv (ag_rf r :: st) h := ag_getf hd hf (ag_gr_ok hg) k
theorem gc_aload_n {n : Fin 4} {r : Option Nat} (hd : decode M.2.1 pc = .ok (.aload_n n, 1)) (hg : ag_get lv n = some (ag_rf r)) (k : ag_ev gc_P l G M d Z (pc + 1) lv (ag_rf r :: st) h) : ag_ev gc_P l G M d Z pc lv st h := ag_aloadV_n hd hg (ag_ir_rf r) k
theorem gc_aload {n : Nat} {r : Option Nat} (hd : decode M.2.1 pc = .ok (.aload n, 2)) (hg : ag_get lv n = some (ag_rf r)) (k : ag_ev gc_P l G M d Z (pc + 2) lv (ag_rf r :: st) h) : ag_ev gc_P l G M d Z pc lv st h := ag_aloadV hd hg (ag_ir_rf r) k
theorem gc_astore_n {n : Fin 4} {r : Option Nat} (hd : decode M.2.1 pc = .ok (.astore_n n, 1)) (hn : (n : Nat) < M.2.2.1) (k : ag_ev gc_P l G M d Z (pc + 1) (ag_s1 lv n (ag_rf r)) st h) : ag_ev gc_P l G M d Z pc lv (ag_rf r :: st) h := ag_astoreV_n hd hn (ag_ir_rf r) k
theorem gc_astore {n : Nat} {r : Option Nat} (hd : decode M.2.1 pc = .ok (.astore n, 2)) (hn : n < M.2.2.1) (k : ag_ev gc_P l G M d Z (pc + 2) (ag_s1 lv n (ag_rf r)) st h) : ag_ev gc_P l G M d Z pc lv (ag_rf r :: st) h := ag_astoreV hd hn (ag_ir_rf r) k
theorem gc_ifnull {r : Option Nat} {off : Int} {tgt : Nat} (hd : decode M.2.1 pc = .ok (.ifnull off, 3)) (ht : (pc : Int) + off = (tgt : Int)) (kt : r = none → ag_ev gc_P l G M d Z tgt lv st h) (kf : ¬ r = none → ag_ev gc_P l G M d Z (pc + 3) lv st h) : ag_ev gc_P l G M d Z pc lv (ag_rf r :: st) h := by
  cases r with
  | none => exact ag_ifnullN hd ht (kt rfl)
  | some a => exact ag_ifnull hd (kf (fun q => by cases q))
theorem gc_ifnonnull {r : Option Nat} {off : Int} {tgt : Nat} (hd : decode M.2.1 pc = .ok (.ifnonnull off, 3)) (ht : (pc : Int) + off = (tgt : Int)) (kt : ¬ r = none → ag_ev gc_P l G M d Z tgt lv st h) (kf : r = none → ag_ev gc_P l G M d Z (pc + 3) lv st h) : ag_ev gc_P l G M d Z pc lv (ag_rf r :: st) h := by
  cases r with
  | none => exact ag_ifnonnullN hd (kf rfl)
  | some a => exact ag_ifnonnull hd ht (kt (fun q => by cases q))
theorem gc_new {ix ci n N : Nat} {D : String} {T : u_T} {fs : List Value} (hC : ag_cN G = C.1 ∧ ag_cS G = C.2) (hd : decode M.2.1 pc = .ok (.new ix, 3)) (hw : Cond.classLink M.1.cls ix D ∈ gc_W) (hi : Cond.instantiable D n ∈ gc_W) (hn : Cond.initialized D ∈ gc_W) (hc : gc_cl[ci]? = some (D, T, N))
    (hfs : ∀ j, j < N → ∃ ty, parseFieldDescriptor (T j).2.2.1 = some ty ∧ defaultValue ty = vp_V fs j) (hq : h.1 + 1 ≤ C.1 ∧ h.2.1 + n ≤ C.2) (k : ag_ev gc_P l G M d Z (pc + 3) lv (.ref h.1 :: st) (ag_nw h n (.inr (ci, fs)))) : ag_ev gc_P l G M d Z pc lv st h :=
  ag_newo hd hw hi hn hc hfs (by rw [hC.1]; exact hq.1) (by rw [hC.2]; exact hq.2) k
theorem gc_newi {at_ : ArrayType} {ty : FieldType} {t : Nat} {x : Int32} {b : Nat} (hC : ag_cN G = C.1 ∧ ag_cS G = C.2) (hd : decode M.2.1 pc = .ok (.newarray at_, 2)) (hw : Cond.arrayClass (newarray.typeOf at_) ∈ gc_W) (hty : newarray.typeOf at_ = ty) (ht : gc_TY[t]? = some ty) (hno : ∀ D, ty ≠ .object D) (hdv : defaultValue ty = .int 0) (hbb : componentBytes ty = b)
    (hq : ¬ x < 0 ∧ x.toNatClampNeg * b ≤ 536870912 ∧ h.1 + 1 ≤ C.1 ∧ h.2.1 + x.toNatClampNeg ≤ C.2) (k : ag_ev gc_P l G M d Z (pc + 2) lv (.ref h.1 :: st) (ag_nw h x.toNatClampNeg (.inl (t, x.toNatClampNeg, .inl (fun _ => 0))))) : ag_ev gc_P l G M d Z pc lv (.int x :: st) h :=
  ag_newar (a0 := (x.toNatClampNeg, .inl (fun _ => 0))) hd hw hty ht hno (fun cA => by rw [hdv]; rfl) hq.1 rfl (by rw [hbb]; exact hq.2.1) (by rw [hC.1]; exact hq.2.2.1) (by rw [hC.2]; exact hq.2.2.2) k
theorem gc_newl {x : Int32} (hC : ag_cN G = C.1 ∧ ag_cS G = C.2) (hd : decode M.2.1 pc = .ok (.newarray .long, 2)) (hw : Cond.arrayClass (newarray.typeOf .long) ∈ gc_W)
    (hq : ¬ x < 0 ∧ x.toNatClampNeg * 8 ≤ 536870912 ∧ h.1 + 1 ≤ C.1 ∧ h.2.1 + x.toNatClampNeg ≤ C.2) (k : ag_ev gc_P l G M d Z (pc + 2) lv (.ref h.1 :: st) (ag_nw h x.toNatClampNeg (.inl (3, x.toNatClampNeg, .inr (.inl (fun _ => 0)))))) : ag_ev gc_P l G M d Z pc lv (.int x :: st) h :=
  ag_newar (ty := .long) (t := 3) (a0 := (x.toNatClampNeg, .inr (.inl (fun _ => 0)))) hd hw rfl rfl (fun D q => by cases q) (fun cA => rfl) hq.1 rfl hq.2.1 (by rw [hC.1]; exact hq.2.2.1) (by rw [hC.2]; exact hq.2.2.2) k
theorem gc_anew {ix t : Nat} {D : String} {x : Int32} (hC : ag_cN G = C.1 ∧ ag_cS G = C.2) (hd : decode M.2.1 pc = .ok (.anewarray ix, 3)) (hw : Cond.classLink M.1.cls ix D ∈ gc_W) (ho : Cond.arrayOver (.object D) ∈ gc_W) (ht : gc_TY[t]? = some (.object D))
    (hq : ¬ x < 0 ∧ x.toNatClampNeg * 4 ≤ 536870912 ∧ h.1 + 1 ≤ C.1 ∧ h.2.1 + x.toNatClampNeg ≤ C.2) (k : ag_ev gc_P l G M d Z (pc + 3) lv (.ref h.1 :: st) (ag_nw h x.toNatClampNeg (.inl (t, x.toNatClampNeg, .inr (.inr (.inr (.inr (fun _ => none)))))))) : ag_ev gc_P l G M d Z pc lv (.int x :: st) h :=
  ag_anew hd hw ho ht hq.1 rfl hq.2.1 (by rw [hC.1]; exact hq.2.2.1) (by rw [hC.2]; exact hq.2.2.2) k
theorem gc_ild {r : Option Nat} {p : Nat × (Nat → Int32)} {i : Int32} (hd : decode M.2.1 pc = .ok (.iaload, 1)) (ha : ag_ai h 0 r = some p) (hi : md_in i p.1 = true) (k : ag_ev gc_P l G M d Z (pc + 1) lv (.int (p.2 i.toNatClampNeg) :: st) h) : ag_ev gc_P l G M d Z pc lv (.int i :: ag_rf r :: st) h := by
  obtain ⟨a, rfl, h2⟩ := ag_ai_ok ha
  exact ag_iald hd rfl h2 (md_in_ok hi) k
theorem gc_cld {r : Option Nat} {p : Nat × (Nat → Int32)} {i : Int32} (hd : decode M.2.1 pc = .ok (.caload, 1)) (ha : ag_ai h 1 r = some p) (hi : md_in i p.1 = true) (k : ag_ev gc_P l G M d Z (pc + 1) lv (.int (p.2 i.toNatClampNeg) :: st) h) : ag_ev gc_P l G M d Z pc lv (.int i :: ag_rf r :: st) h := by
  obtain ⟨a, rfl, h2⟩ := ag_ai_ok ha
  exact ag_cald hd rfl h2 (md_in_ok hi) k
theorem gc_ist {r : Option Nat} {p : Nat × (Nat → Int32)} {i x : Int32} (hd : decode M.2.1 pc = .ok (.iastore, 1)) (ha : ag_ai h 0 r = some p) (hi : md_in i p.1 = true) (k : ag_ev gc_P l G M d Z (pc + 1) lv st (ag_up h (r.getD 0) (.inl (0, p.1, .inl (upd p.2 i.toNatClampNeg x))))) : ag_ev gc_P l G M d Z pc lv (.int x :: .int i :: ag_rf r :: st) h := by
  obtain ⟨a, rfl, h2⟩ := ag_ai_ok ha
  exact ag_iast hd rfl h2 (md_in_ok hi) k
theorem gc_cst {r : Option Nat} {p : Nat × (Nat → Int32)} {i x : Int32} (hd : decode M.2.1 pc = .ok (.castore, 1)) (ha : ag_ai h 1 r = some p) (hi : md_in i p.1 = true) (k : ag_ev gc_P l G M d Z (pc + 1) lv st (ag_up h (r.getD 0) (.inl (1, p.1, .inl (upd p.2 i.toNatClampNeg (vp_nar .char x)))))) : ag_ev gc_P l G M d Z pc lv (.int x :: .int i :: ag_rf r :: st) h := by
  obtain ⟨a, rfl, h2⟩ := ag_ai_ok ha
  exact ag_cast hd rfl h2 (md_in_ok hi) k
theorem gc_alen {r : Option Nat} {x : Int32} (hd : decode M.2.1 pc = .ok (.arraylength, 1)) (ha : ag_le h r = some x) (k : ag_ev gc_P l G M d Z (pc + 1) lv (.int x :: st) h) : ag_ev gc_P l G M d Z pc lv (ag_rf r :: st) h := by
  unfold ag_le at ha
  split at ha
  · cases ha
    exact ag_alen1 hd k
  · cases ha
  · split at ha
    · next t y hc =>
      split at ha
      · next ht =>
        cases ha
        have hty : ∃ ty, gc_TY[t]? = some ty := by
          have : t < gc_TY.length := Nat.lt_of_le_of_lt ht (by decide)
          exact ⟨_, List.getElem?_eq_getElem this⟩
        obtain ⟨ty, hty⟩ := hty
        exact ag_alen hd hty hc k
      · cases ha
    · cases ha
theorem gc_cast {ix ci : Nat} {D : String} {T : u_T} {N : Nat} {r : Option Nat} (hd : decode M.2.1 pc = .ok (.checkcast ix, 3)) (hw : Cond.classLink M.1.cls ix D ∈ gc_W) (hc : gc_cl[ci]? = some (D, T, N)) (ha : ag_ck h r ci = true) (k : ag_ev gc_P l G M d Z (pc + 3) lv (ag_rf r :: st) h) : ag_ev gc_P l G M d Z pc lv (ag_rf r :: st) h := by
  rcases ag_ck_ok ha with rfl | ⟨a, fs, rfl, h2⟩
  · exact ag_ccastN hd k
  · exact ag_ccast hd hw hc (Or.inr rfl) h2 k
theorem gc_callv {ix ci a : Nat} {r : Option Nat} {q : vw_C} (hd : decode M.2.1 pc = .ok (.invokevirtual ix, 3)) (hl : ag_ml gc_P M.1.cls ix Y as.length) (hin : Cond.instanceMethod Y.1 ∈ gc_W) (hc : gc_cl[ci]? = some q) (hse : Cond.selects q.1 Y.1 Y.1 ∈ gc_W) (ha : ag_rc h r ci = some a)
    (hw : (st.map fun v => v.category).sum ≤ 8) (hM : ag_Met gc_P l G Y d (.ref a :: as) h Q) (k : ∀ v h', Q v h' → ag_ev gc_P l G M (d + 1) Z (pc + 3) lv (v.toList ++ st) h') : ag_ev gc_P l G M (d + 1) Z pc lv (as.reverse ++ ag_rf r :: st) h := by
  obtain ⟨rfl, fs, h2⟩ := ag_rc_ok ha
  exact ag_callv hd hl hin hc hse h2 hw hM k
theorem gc_callf {ix ct a : Nat} {r : Option Nat} {x : MethodName} (hd : decode M.2.1 pc = .ok (.invokeinterface ix ct, 5)) (hl : ag_il gc_P M.1.cls ix "java/util/ArrayList" x Y as.length) (ha : ag_rc h r 11 = some a)
    (hw : (st.map fun v => v.category).sum ≤ 8) (hM : ag_Met gc_P l G Y d (.ref a :: as) h Q) (k : ∀ v h', Q v h' → ag_ev gc_P l G M (d + 1) Z (pc + 5) lv (v.toList ++ st) h') : ag_ev gc_P l G M (d + 1) Z pc lv (as.reverse ++ ag_rf r :: st) h := by
  obtain ⟨rfl, fs, h2⟩ := ag_rc_ok ha
  exact ag_callf (ci := 11) (q := ("java/util/ArrayList", tC_AL, 3)) hd rfl hl h2 hw hM k
theorem gc_aret {r : Option Nat} {ty : FieldType} {Q : Option Value → ag_H → Prop} (hd : decode M.2.1 pc = .ok (.areturn, 1)) (hm : M.2.2.2.1 = some ty) (hty : (∃ n, ty = .object n) ∨ ∃ t, ty = .array t) (q : Q (some (ag_rf r)) h) : ag_ev gc_P l G M d (ag_ret gc_P G Q) pc lv [ag_rf r] h := ag_aret hd hm hty (ag_ir_rf r) q
theorem gc_putf {ix ci n : Nat} {ty : FieldType} {fin : Bool} {r : Option Nat} {w : Value} {h' : ag_H} (hd : decode M.2.1 pc = .ok (.putfield ix, 3)) (hf : ag_fl gc_P M.1.cls ix ci n ty fin) (hin : fin = true → M.1.name = "<init>") (hg : ag_pf h (ag_rf r) ci n ty w = some h') (k : ag_ev gc_P l G M d Z (pc + 3) lv st h') : ag_ev gc_P l G M d Z pc lv (w :: ag_rf r :: st) h := ag_putf hd hf hin hg k
theorem gc_acmp_eq {rx ry : Option Nat} {off : Int} {tgt : Nat} (hd : decode M.2.1 pc = .ok (.if_acmp .eq off, 3)) (ht : (pc : Int) + off = (tgt : Int)) (hx : ¬ (rx = some 0 ∨ ry = some 0)) (kt : rx = ry → ag_ev gc_P l G M d Z tgt lv st h) (kf : ¬ rx = ry → ag_ev gc_P l G M d Z (pc + 3) lv st h) : ag_ev gc_P l G M d Z pc lv (ag_rf ry :: ag_rf rx :: st) h := ag_acmp_eq hd ht (fun q => hx (Or.inl q)) (fun q => hx (Or.inr q)) kt kf
theorem gc_acmp_ne {rx ry : Option Nat} {off : Int} {tgt : Nat} (hd : decode M.2.1 pc = .ok (.if_acmp .ne off, 3)) (ht : (pc : Int) + off = (tgt : Int)) (hx : ¬ (rx = some 0 ∨ ry = some 0)) (kt : ¬ rx = ry → ag_ev gc_P l G M d Z tgt lv st h) (kf : rx = ry → ag_ev gc_P l G M d Z (pc + 3) lv st h) : ag_ev gc_P l G M d Z pc lv (ag_rf ry :: ag_rf rx :: st) h := ag_acmp_ne hd ht (fun q => hx (Or.inl q)) (fun q => hx (Or.inr q)) kt kf
end GCR
