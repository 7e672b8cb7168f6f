/-! ### The reference's object: one state of numbers and arrays, one heap for it -/
abbrev MS : Type := (Nat → Int32) × (Nat → Nat → Int32)
def md_len (j : Nat) : Nat := match j with
  | 1 => 3840
  | 2 => 96
  | 3 => 17
  | 4 => 17
  | 5 => 340
  | 6 => 17
  | 7 => 17
  | 8 => 17
  | 9 => 31
  | 10 => 31
  | 11 => 31
  | 12 => 31
  | 13 => 496
  | 14 => 31
  | 15 => 1488
  | 16 => 48
  | 17 => 160
  | 18 => 4
  | 19 => 5
  | 20 => 8
  | 21 => 48
  | _ => 0
def md_t (j : Nat) : Nat := match j with
  | 6 => 2
  | 11 => 2
  | _ => 0
def md_ar (S : MS) (j : Nat) : ag_C := .inl (md_t j, md_len j, .inl (S.2 j))
def md_fs (a : Nat) (I : Nat → Int32) : List Value := [.int (I 0), .ref (a + 1), .ref (a + 2), .ref (a + 3), .int (I 4), .int (I 5), .int (I 6), .int (I 7), .int (I 8), .int (I 9), .ref (a + 4), .ref (a + 5), .ref (a + 6), .ref (a + 7), .ref (a + 8), .int (I 15), .int (I 16), .int (I 17), .int (I 18), .int (I 19), .int (I 20), .ref (a + 9), .ref (a + 10), .ref (a + 11), .ref (a + 12), .ref (a + 13), .int (I 26), .int (I 27), .ref (a + 14), .ref (a + 15), .ref (a + 16), .int (I 31), .int (I 32), .int (I 33), .ref (a + 17), .int (I 35), .int (I 36), .int (I 37), .ref (a + 18), .ref (a + 19), .ref (a + 20), .ref (a + 21), .int (I 42), .int (I 43), .int (I 44), .int (I 45)]
def md_up (h : ag_H) (a : Nat) (S : MS) : ag_H := (h.1, h.2.1, fun q => if q < a then h.2.2 q else if q = a then .inr (10, md_fs a S.1) else if q ≤ a + 21 then md_ar S (q - a) else h.2.2 q)
def md_ok (h : ag_H) (a : Nat) : Prop := 2 ≤ a ∧ a + 21 < h.1
theorem md_up_up (h : ag_H) (a : Nat) (S T : MS) : md_up (md_up h a S) a T = md_up h a T := by
  unfold md_up
  refine Prod.ext rfl (Prod.ext rfl (funext fun q => ?_))
  by_cases h1 : q < a
  · simp [h1]
  · by_cases h2 : q = a
    · simp [h2]
    · by_cases h3 : q ≤ a + 21
      · simp [h1, h2, h3]
      · simp [h1, h2, h3]
theorem md_atE {h : ag_H} {q : Nat} (h2 : 2 ≤ q) (h3 : q < h.1) : ag_at h (.ref q) = some (h.2.2 q) := by
  obtain ⟨j, rfl⟩ : ∃ j, q = j + 2 := ⟨q - 2, by omega⟩
  show (bif Nat.blt (j + 2) h.1 then some (h.2.2 (j + 2)) else none) = _
  have : Nat.blt (j + 2) h.1 = true := Nat.ble_eq_true_of_le (show j + 2 + 1 ≤ h.1 by omega)
  rw [this]
  rfl
theorem md_at0 {h : ag_H} {a : Nat} (hb : md_ok h a) (S : MS) : ag_at (md_up h a S) (.ref a) = some (.inr (10, md_fs a S.1)) := by
  rw [md_atE (h := md_up h a S) hb.1 (show a < h.1 by have := hb.2; omega)]
  simp [md_up]
theorem md_atj {h : ag_H} {a : Nat} (hb : md_ok h a) (S : MS) {j : Nat} (h1 : 1 ≤ j) (h2 : j ≤ 21) : ag_at (md_up h a S) (.ref (a + j)) = some (md_ar S j) := by
  have hb1 := hb.1
  have hb2 := hb.2
  rw [md_atE (h := md_up h a S) (show 2 ≤ a + j by omega) (show a + j < h.1 by omega)]
  have e1 : ¬ (a + j < a) := by omega
  have e2 : ¬ (a + j = a) := by omega
  have e3 : a + j ≤ a + 21 := by omega
  show some (if a + j < a then _ else if a + j = a then _ else if a + j ≤ a + 21 then _ else _) = _
  rw [if_neg e1, if_neg e2, if_pos e3, show a + j - a = j by omega]
theorem md_put0 (h : ag_H) (a : Nat) (S : MS) (I : Nat → Int32) : ag_up (md_up h a S) a (.inr (10, md_fs a I)) = md_up h a (I, S.2) := by
  unfold md_up ag_up
  refine Prod.ext rfl (Prod.ext rfl (funext fun q => ?_))
  show va_up _ a _ q = _
  unfold va_up
  by_cases h2 : q = a
  · simp [h2]
  · by_cases h1 : q < a
    · simp [h1, h2]
    · by_cases h3 : q ≤ a + 21
      · simp [h1, h2, h3, md_ar]
      · simp [h1, h2, h3]
theorem md_putj (h : ag_H) (a : Nat) (S : MS) {j : Nat} (h1 : 1 ≤ j) (h2 : j ≤ 21) (f : Nat → Int32) : ag_up (md_up h a S) (a + j) (.inl (md_t j, md_len j, .inl f)) = md_up h a (S.1, va_up S.2 j f) := by
  unfold md_up ag_up
  refine Prod.ext rfl (Prod.ext rfl (funext fun q => ?_))
  show va_up _ (a + j) _ q = _
  unfold va_up
  by_cases h4 : q = a + j
  · subst h4
    have e1 : ¬ (a + j < a) := by omega
    have e2 : ¬ (a + j = a) := by omega
    have e3 : a + j ≤ a + 21 := by omega
    rw [if_pos rfl]
    show _ = if a + j < a then _ else if a + j = a then _ else if a + j ≤ a + 21 then _ else _
    rw [if_neg e1, if_neg e2, if_pos e3, show a + j - a = j by omega]
    simp [md_ar]
  · rw [if_neg h4]
    by_cases h5 : q < a
    · simp [h5]
    · by_cases h6 : q = a
      · simp [h6]
      · by_cases h7 : q ≤ a + 21
        · have h8 : ¬ q - a = j := by omega
          simp [h5, h6, h7, md_ar, h8]
        · simp [h5, h6, h7]
def md_in (i : Int32) (n : Nat) : Bool := !(decide (i < 0)) && decide (i.toNatClampNeg < n)
theorem md_in_ok {i : Int32} {n : Nat} (h : md_in i n = true) : vp_in i n := by
  unfold md_in at h
  simp only [Bool.and_eq_true, Bool.not_eq_true', decide_eq_false_iff_not, decide_eq_true_eq] at h
  rintro (q | q)
  · exact h.1 q
  · omega
def md_01 (x : Int32) : Bool := x == 0 || x == 1
theorem md_ifs {α : Type} {c : Prop} [Decidable c] {A : Option α} {r : α} (h : (if c then A else none) = some r) : c ∧ A = some r := by
  by_cases q : c
  · rw [if_pos q] at h; exact ⟨q, h⟩
  · rw [if_neg q] at h; cases h
theorem md_ifp {α : Type} {c : Prop} [Decidable c] {A B : Option α} {r : α} (q : c) (h : (if c then A else B) = some r) : A = some r := by rw [if_pos q] at h; exact h
theorem md_ifn {α : Type} {c : Prop} [Decidable c] {A B : Option α} {r : α} (q : ¬ c) (h : (if c then A else B) = some r) : B = some r := by rw [if_neg q] at h; exact h
theorem md_bd {α β : Type} {A : Option α} {f : α → Option β} {r : β} (h : A.bind f = some r) : ∃ x, A = some x ∧ f x = some r := by
  cases A with
  | none => cases h
  | some x => exact ⟨x, rfl, h⟩
theorem md_dd {H d : Nat} (h : H + 1 ≤ d) : ∃ d', d = d' + 1 ∧ H ≤ d' := ⟨d - 1, by omega, by omega⟩
theorem ag_dr {P : ag_P} {l : Launch} {G : ag_G} {M : ag_M} {d : Nat} {Z : ag_Z} {pc : Nat} {lv lv' : ag_L} {st : List Value} {h : ag_H} (hs : ∀ q ∈ lv', ag_get lv q.1 = some q.2) (k : ag_ev P l G M d Z pc lv' st h) : ag_ev P l G M d Z pc lv st h :=
  ag_drop (fun q hq => ag_get_mem (hs q hq)) k
theorem ag_d0 {lv : ag_L} : ∀ q ∈ ([] : ag_L), ag_get lv q.1 = some q.2 := fun _ h => by cases h
theorem ag_d1 {lv lv' : ag_L} {i : Nat} {v : Value} (h : ag_get lv i = some v) (t : ∀ q ∈ lv', ag_get lv q.1 = some q.2) : ∀ q ∈ (i, v) :: lv', ag_get lv q.1 = some q.2 := List.forall_mem_cons.mpr ⟨h, t⟩
section MDR
variable {l : Launch} {G : ag_G} {M : ag_M} {d : Nat} {Z : ag_Z} {pc : Nat} {lv : ag_L} {st : List Value} {h : ag_H} {a : Nat} {S : MS}
theorem md_get {ix k : Nat} {w : Value} (hb : md_ok h a) (hd : decode M.2.1 pc = .ok (.getfield ix, 3)) (hf : ag_fr gc_P M.1.cls ix 10 k) (hk : (md_fs a S.1)[k]? = some w) (K : ag_ev gc_P l G M d Z (pc + 3) lv (w :: st) (md_up h a S)) : ag_ev gc_P l G M d Z pc lv (.ref a :: st) (md_up h a S) :=
  ag_getf hd hf (by unfold ag_gf; rw [md_at0 hb]; exact hk) K
theorem md_puti {ix k : Nat} {ty : FieldType} {x : Int32} (hb : md_ok h a) (hd : decode M.2.1 pc = .ok (.putfield ix, 3)) (hf : ag_fl gc_P M.1.cls ix 10 k ty false) (hk : (md_fs a S.1).set k (.int x) = md_fs a (va_up S.1 k x)) (hl : k < 46) (hn : narrow ty (.int x) = .int x) (hx : fits ty (.int x) = true)
    (K : ag_ev gc_P l G M d Z (pc + 3) lv st (md_up h a (va_up S.1 k x, S.2))) : ag_ev gc_P l G M d Z pc lv (.int x :: .ref a :: st) (md_up h a S) := by
  refine ag_putf hd hf (fun q => by cases q) ?_ K
  unfold ag_pf
  dsimp only
  rw [md_at0 hb]
  show (if 10 = 10 ∧ k < (md_fs a S.1).length ∧ narrow ty (.int x) = .int x ∧ fits ty (.int x) = true then some (ag_up (md_up h a S) a (.inr (10, (md_fs a S.1).set k (.int x)))) else none) = _
  rw [if_pos ⟨rfl, show k < (md_fs a S.1).length from hl, hn, hx⟩, hk, md_put0]
theorem md_01n {x : Int32} (h : md_01 x = true) : narrow .boolean (.int x) = .int x := by
  unfold md_01 at h
  simp only [Bool.or_eq_true, beq_iff_eq] at h
  rcases h with rfl | rfl <;> rfl
theorem md_putz {ix k : Nat} {x : Int32} (hb : md_ok h a) (hd : decode M.2.1 pc = .ok (.putfield ix, 3)) (hf : ag_fl gc_P M.1.cls ix 10 k .boolean false) (hk : (md_fs a S.1).set k (.int x) = md_fs a (va_up S.1 k x)) (hl : k < 46) (h01 : md_01 x = true)
    (K : ag_ev gc_P l G M d Z (pc + 3) lv st (md_up h a (va_up S.1 k x, S.2))) : ag_ev gc_P l G M d Z pc lv (.int x :: .ref a :: st) (md_up h a S) :=
  md_puti hb hd hf hk hl (md_01n h01) h01 K
theorem md_ald {j : Nat} {i : Int32} (hb : md_ok h a) (hd : decode M.2.1 pc = .ok (.iaload, 1)) (h1 : 1 ≤ j) (h2 : j ≤ 21) (ht : md_t j = 0) (hi : md_in i (md_len j) = true) (K : ag_ev gc_P l G M d Z (pc + 1) lv (.int (S.2 j i.toNatClampNeg) :: st) (md_up h a S)) : ag_ev gc_P l G M d Z pc lv (.int i :: .ref (a + j) :: st) (md_up h a S) :=
  ag_iald (t := md_t j) (n := md_len j) (f := S.2 j) hd (by rw [ht]; rfl) (md_atj hb S h1 h2) (md_in_ok hi) K
theorem md_zald {j : Nat} {i : Int32} (hb : md_ok h a) (hd : decode M.2.1 pc = .ok (.baload, 1)) (h1 : 1 ≤ j) (h2 : j ≤ 21) (ht : md_t j = 2) (hi : md_in i (md_len j) = true) (K : ag_ev gc_P l G M d Z (pc + 1) lv (.int (S.2 j i.toNatClampNeg) :: st) (md_up h a S)) : ag_ev gc_P l G M d Z pc lv (.int i :: .ref (a + j) :: st) (md_up h a S) :=
  ag_zald (t := md_t j) (n := md_len j) (f := S.2 j) hd (by rw [ht]; rfl) (md_atj hb S h1 h2) (md_in_ok hi) K
theorem md_ast {j : Nat} {i x : Int32} (hb : md_ok h a) (hd : decode M.2.1 pc = .ok (.iastore, 1)) (h1 : 1 ≤ j) (h2 : j ≤ 21) (ht : md_t j = 0) (hi : md_in i (md_len j) = true) (K : ag_ev gc_P l G M d Z (pc + 1) lv st (md_up h a (S.1, va_up S.2 j (upd (S.2 j) i.toNatClampNeg x)))) : ag_ev gc_P l G M d Z pc lv (.int x :: .int i :: .ref (a + j) :: st) (md_up h a S) := by
  refine ag_iast (t := md_t j) (n := md_len j) (f := S.2 j) hd (by rw [ht]; rfl) (md_atj hb S h1 h2) (md_in_ok hi) ?_
  rw [md_putj h a S h1 h2]
  exact K
theorem md_zast {j : Nat} {i x : Int32} (hb : md_ok h a) (hd : decode M.2.1 pc = .ok (.bastore, 1)) (h1 : 1 ≤ j) (h2 : j ≤ 21) (ht : md_t j = 2) (hi : md_in i (md_len j) = true) (K : ag_ev gc_P l G M d Z (pc + 1) lv st (md_up h a (S.1, va_up S.2 j (upd (S.2 j) i.toNatClampNeg (vp_nar .boolean x))))) : ag_ev gc_P l G M d Z pc lv (.int x :: .int i :: .ref (a + j) :: st) (md_up h a S) := by
  refine ag_zast (t := md_t j) (n := md_len j) (f := S.2 j) hd (by rw [ht]; rfl) (md_atj hb S h1 h2) (md_in_ok hi) ?_
  rw [md_putj h a S h1 h2]
  exact K
end MDR
def md_E : Int32 := 1000000
theorem md_Ew : Cond.constant "GrantChainModel" 208 md_E ∈ gc_W := gw_1267
