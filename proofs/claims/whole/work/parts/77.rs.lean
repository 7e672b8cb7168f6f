/-! ### The reader's places in the pure heap: line 3 (its characters 4), reader 5, steps 6 -/
def rs (h : ag_H) (n p k : Nat) (nv bv : Int32) (st : Nat → Int32) : ag_H := (h.1, h.2.1, fun q => if q = 3 then .inr (1, [.ref 4, .int (Int32.ofNat n), .int (Int32.ofNat p)]) else if q = 5 then .inr (2, [.ref 6, .int (Int32.ofNat k), .int nv, .int bv]) else if q = 6 then .inl (0, 40, .inl st) else h.2.2 q)
def rs_ok (c : Nat → Nat) (f : Nat → Int32) (n : Nat) (h : ag_H) : Prop := 75 ≤ h.1 ∧ n ≤ 40 ∧ h.2.2 4 = .inl (1, 40, .inl f) ∧ ∀ i, i < n → f i = Int32.ofNat (c i) ∧ 32 ≤ c i ∧ c i ≤ 126
section RS
variable {h : ag_H} {n p k : Nat} {nv bv : Int32} {st : Nat → Int32} {c : Nat → Nat} {f : Nat → Int32}
theorem rs_1 : (rs h n p k nv bv st).1 = h.1 := rfl
theorem rs_2 : (rs h n p k nv bv st).2.1 = h.2.1 := rfl
theorem rs_at3 (o : rs_ok c f n h) : ag_at (rs h n p k nv bv st) (.ref 3) = some (.inr (1, [.ref 4, .int (Int32.ofNat n), .int (Int32.ofNat p)])) := pu_at (by decide) (show 3 < h.1 by have := o.1; omega) rfl
theorem rs_at4 (o : rs_ok c f n h) : ag_at (rs h n p k nv bv st) (.ref 4) = some (.inl (1, 40, .inl f)) := pu_at (by decide) (show 4 < h.1 by have := o.1; omega) o.2.2.1
theorem rs_at5 (o : rs_ok c f n h) : ag_at (rs h n p k nv bv st) (.ref 5) = some (.inr (2, [.ref 6, .int (Int32.ofNat k), .int nv, .int bv])) := pu_at (by decide) (show 5 < h.1 by have := o.1; omega) rfl
theorem rs_at6 (o : rs_ok c f n h) : ag_at (rs h n p k nv bv st) (.ref 6) = some (.inl (0, 40, .inl st)) := pu_at (by decide) (show 6 < h.1 by have := o.1; omega) rfl
theorem rs_rc3 (o : rs_ok c f n h) : ag_rc (rs h n p k nv bv st) (some 3) 1 = some 3 := pu_rc (rs_at3 o)
theorem rs_rc5 (o : rs_ok c f n h) : ag_rc (rs h n p k nv bv st) (some 5) 2 = some 5 := pu_rc (rs_at5 o)
theorem rs_len (o : rs_ok c f n h) : ag_gi (rs h n p k nv bv st) (some 3) 1 1 = some (Int32.ofNat n) := pu_gi (rs_at3 o) rfl
theorem rs_pos (o : rs_ok c f n h) : ag_gi (rs h n p k nv bv st) (some 3) 1 2 = some (Int32.ofNat p) := pu_gi (rs_at3 o) rfl
theorem rs_txt (o : rs_ok c f n h) : ag_gr (rs h n p k nv bv st) (some 3) 1 0 = some (some 4) := pu_gr (rs_at3 o) rfl
theorem rs_chr (o : rs_ok c f n h) : ag_ai (rs h n p k nv bv st) 1 (some 4) = some (40, f) := pu_ai (rs_at4 o)
theorem rs_k (o : rs_ok c f n h) : ag_gi (rs h n p k nv bv st) (some 5) 2 1 = some (Int32.ofNat k) := pu_gi (rs_at5 o) rfl
theorem rs_nv (o : rs_ok c f n h) : ag_gi (rs h n p k nv bv st) (some 5) 2 2 = some nv := pu_gi (rs_at5 o) rfl
theorem rs_bv (o : rs_ok c f n h) : ag_gi (rs h n p k nv bv st) (some 5) 2 3 = some bv := pu_gi (rs_at5 o) rfl
theorem rs_stp (o : rs_ok c f n h) : ag_gr (rs h n p k nv bv st) (some 5) 2 0 = some (some 6) := pu_gr (rs_at5 o) rfl
theorem rs_sts (o : rs_ok c f n h) : ag_ai (rs h n p k nv bv st) 0 (some 6) = some (40, st) := pu_ai (rs_at6 o)
theorem rs_ext {h' : ag_H} {x : ag_H} (h1 : h'.1 = x.1) (h2 : h'.2.1 = x.2.1) (h3 : ∀ q, h'.2.2 q = x.2.2 q) : h' = x := Prod.ext h1 (Prod.ext h2 (funext h3))
theorem rs_up3 {p' : Nat} : ag_up (rs h n p k nv bv st) 3 (.inr (1, [.ref 4, .int (Int32.ofNat n), .int (Int32.ofNat p')])) = rs h n p' k nv bv st := by
  refine rs_ext rfl rfl fun q => ?_
  show (if q = 3 then _ else _) = (if q = 3 then _ else _)
  by_cases e : q = 3
  · rw [if_pos e, if_pos e]
  · rw [if_neg e, if_neg e]; exact if_neg e
theorem rs_up5 {k' : Nat} {nv' bv' : Int32} : ag_up (rs h n p k nv bv st) 5 (.inr (2, [.ref 6, .int (Int32.ofNat k'), .int nv', .int bv'])) = rs h n p k' nv' bv' st := by
  refine rs_ext rfl rfl fun q => ?_
  show (if q = 5 then _ else if q = 3 then _ else if q = 5 then _ else _) = (if q = 3 then _ else if q = 5 then _ else _)
  by_cases e : q = 3
  · subst e; rfl
  · rw [if_neg e, if_neg e]
    by_cases e5 : q = 5
    · rw [if_pos e5, if_pos e5]
    · rw [if_neg e5, if_neg e5, if_neg e5]
theorem rs_up6 {st' : Nat → Int32} : ag_up (rs h n p k nv bv st) 6 (.inl (0, 40, .inl st')) = rs h n p k nv bv st' := by
  refine rs_ext rfl rfl fun q => ?_
  show (if q = 6 then _ else if q = 3 then _ else if q = 5 then _ else if q = 6 then _ else _) = (if q = 3 then _ else if q = 5 then _ else if q = 6 then _ else _)
  by_cases e : q = 3
  · subst e; rfl
  · rw [if_neg e, if_neg e]
    by_cases e5 : q = 5
    · subst e5; rfl
    · rw [if_neg e5, if_neg e5]
      by_cases e6 : q = 6
      · rw [if_pos e6, if_pos e6]
      · rw [if_neg e6, if_neg e6, if_neg e6]
theorem rs_pp (o : rs_ok c f n h) {p' : Nat} : ag_pf (rs h n p k nv bv st) (ag_rf (some 3)) 1 2 .int (.int (Int32.ofNat p')) = some (rs h n p' k nv bv st) := by
  rw [pu_pf (rs_at3 o) (Nat.le_of_ble_eq_true rfl) rfl rfl]
  exact congrArg some rs_up3
theorem rs_pk (o : rs_ok c f n h) {k' : Nat} : ag_pf (rs h n p k nv bv st) (ag_rf (some 5)) 2 1 .int (.int (Int32.ofNat k')) = some (rs h n p k' nv bv st) := by
  rw [pu_pf (rs_at5 o) (Nat.le_of_ble_eq_true rfl) rfl rfl]
  exact congrArg some rs_up5
theorem rs_pn (o : rs_ok c f n h) {x : Int32} : ag_pf (rs h n p k nv bv st) (ag_rf (some 5)) 2 2 .int (.int x) = some (rs h n p k x bv st) := by
  rw [pu_pf (rs_at5 o) (Nat.le_of_ble_eq_true rfl) rfl rfl]
  exact congrArg some rs_up5
theorem rs_pb (o : rs_ok c f n h) {x : Int32} : ag_pf (rs h n p k nv bv st) (ag_rf (some 5)) 2 3 .int (.int x) = some (rs h n p k nv x st) := by
  rw [pu_pf (rs_at5 o) (Nat.le_of_ble_eq_true rfl) rfl rfl]
  exact congrArg some rs_up5
theorem rs_nw (o : rs_ok c f n h) {m : Nat} {x : ag_C} : ag_nw (rs h n p k nv bv st) m x = rs (ag_nw h m x) n p k nv bv st := by
  have o1 := o.1
  refine rs_ext rfl rfl fun q => ?_
  show (if q = h.1 then x else if q = 3 then _ else if q = 5 then _ else if q = 6 then _ else h.2.2 q) = (if q = 3 then _ else if q = 5 then _ else if q = 6 then _ else if q = h.1 then x else h.2.2 q)
  by_cases e : q = h.1
  · rw [if_pos e, if_neg (by omega), if_neg (by omega), if_neg (by omega), if_pos e]
  · rw [if_neg e]
    by_cases e3 : q = 3
    · rw [if_pos e3, if_pos e3]
    · rw [if_neg e3, if_neg e3]
      by_cases e5 : q = 5
      · rw [if_pos e5, if_pos e5]
      · rw [if_neg e5, if_neg e5]
        by_cases e6 : q = 6
        · rw [if_pos e6, if_pos e6]
        · rw [if_neg e6, if_neg e6, if_neg e]
theorem rs_up {q : Nat} (hq : 7 ≤ q) {x : ag_C} : ag_up (rs h n p k nv bv st) q x = rs (ag_up h q x) n p k nv bv st := by
  refine rs_ext rfl rfl fun j => ?_
  show (if j = q then x else if j = 3 then _ else if j = 5 then _ else if j = 6 then _ else h.2.2 j) = (if j = 3 then _ else if j = 5 then _ else if j = 6 then _ else if j = q then x else h.2.2 j)
  by_cases e : j = q
  · rw [if_pos e, if_neg (by omega), if_neg (by omega), if_neg (by omega), if_pos e]
  · rw [if_neg e]
    by_cases e3 : j = 3
    · rw [if_pos e3, if_pos e3]
    · rw [if_neg e3, if_neg e3]
      by_cases e5 : j = 5
      · rw [if_pos e5, if_pos e5]
      · rw [if_neg e5, if_neg e5]
        by_cases e6 : j = 6
        · rw [if_pos e6, if_pos e6]
        · rw [if_neg e6, if_neg e6, if_neg e]
theorem rs_oknw (o : rs_ok c f n h) {m : Nat} {x : ag_C} : rs_ok c f n (ag_nw h m x) := by
  have o1 := o.1
  refine ⟨show 75 ≤ h.1 + 1 by omega, o.2.1, ?_, o.2.2.2⟩
  show (if 4 = h.1 then x else h.2.2 4) = _
  rw [if_neg (by omega)]; exact o.2.2.1
theorem rs_okup (o : rs_ok c f n h) {q : Nat} {x : ag_C} (hq : 7 ≤ q) : rs_ok c f n (ag_up h q x) := by
  refine ⟨o.1, o.2.1, ?_, o.2.2.2⟩
  show (if 4 = q then x else h.2.2 4) = _
  rw [if_neg (by omega)]; exact o.2.2.1
end RS
