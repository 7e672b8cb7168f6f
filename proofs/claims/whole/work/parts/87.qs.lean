/-! ### The reference's places for reading: at 16, wrong 20, bodySet 26, otherSet 27, signs 31; arrays atoms 12, atom 13, codes 14, code 15, sign 16 -/
def qs (S : MS) (p : Nat) (w b o : Int32) (s : Nat) (a12 a13 a14 a15 a16 : Nat → Int32) : MS := (fun k => if k = 16 then Int32.ofNat p else if k = 20 then w else if k = 26 then b else if k = 27 then o else if k = 31 then Int32.ofNat s else S.1 k, fun j => if j = 12 then a12 else if j = 13 then a13 else if j = 14 then a14 else if j = 15 then a15 else if j = 16 then a16 else S.2 j)
section QS
variable {S : MS} {p s : Nat} {w b o : Int32} {a12 a13 a14 a15 a16 : Nat → Int32}
theorem qs_g16 : (qs S p w b o s a12 a13 a14 a15 a16).1 16 = Int32.ofNat p := rfl
theorem qs_g20 : (qs S p w b o s a12 a13 a14 a15 a16).1 20 = w := rfl
theorem qs_g26 : (qs S p w b o s a12 a13 a14 a15 a16).1 26 = b := rfl
theorem qs_g27 : (qs S p w b o s a12 a13 a14 a15 a16).1 27 = o := rfl
theorem qs_g31 : (qs S p w b o s a12 a13 a14 a15 a16).1 31 = Int32.ofNat s := rfl
theorem qs_g17 : (qs S p w b o s a12 a13 a14 a15 a16).1 17 = S.1 17 := rfl
theorem qs_g18 : (qs S p w b o s a12 a13 a14 a15 a16).1 18 = S.1 18 := rfl
theorem qs_g19 : (qs S p w b o s a12 a13 a14 a15 a16).1 19 = S.1 19 := rfl
theorem qs_h12 : (qs S p w b o s a12 a13 a14 a15 a16).2 12 = a12 := rfl
theorem qs_h13 : (qs S p w b o s a12 a13 a14 a15 a16).2 13 = a13 := rfl
theorem qs_h14 : (qs S p w b o s a12 a13 a14 a15 a16).2 14 = a14 := rfl
theorem qs_h15 : (qs S p w b o s a12 a13 a14 a15 a16).2 15 = a15 := rfl
theorem qs_h16 : (qs S p w b o s a12 a13 a14 a15 a16).2 16 = a16 := rfl
theorem qs_h1 : (qs S p w b o s a12 a13 a14 a15 a16).2 1 = S.2 1 := rfl
theorem qs_h2 : (qs S p w b o s a12 a13 a14 a15 a16).2 2 = S.2 2 := rfl
theorem qs_h9 : (qs S p w b o s a12 a13 a14 a15 a16).2 9 = S.2 9 := rfl
theorem qs_h11 : (qs S p w b o s a12 a13 a14 a15 a16).2 11 = S.2 11 := rfl
theorem va_ext1 {f g : Nat → Int32} {k : Nat} {v : Int32} (h1 : g k = v) (h2 : ∀ j, j ≠ k → g j = f j) : va_up f k v = g := funext fun j => by
  unfold va_up
  by_cases e : j = k
  · rw [if_pos e, e, h1]
  · rw [if_neg e, h2 j e]
theorem va_ext2 {f g : Nat → Nat → Int32} {k : Nat} {v : Nat → Int32} (h1 : g k = v) (h2 : ∀ j, j ≠ k → g j = f j) : va_up f k v = g := funext fun j => by
  unfold va_up
  by_cases e : j = k
  · rw [if_pos e, e, h1]
  · rw [if_neg e, h2 j e]
theorem qs_s16 {p' : Nat} : (va_up (qs S p w b o s a12 a13 a14 a15 a16).1 16 (Int32.ofNat p'), (qs S p w b o s a12 a13 a14 a15 a16).2) = qs S p' w b o s a12 a13 a14 a15 a16 := by
  refine Prod.ext (va_ext1 rfl fun j hj => ?_) rfl
  show (if j = 16 then (Int32.ofNat p') else if j = 20 then w else if j = 26 then b else if j = 27 then o else if j = 31 then Int32.ofNat s else S.1 j) = (if j = 16 then Int32.ofNat p else if j = 20 then w else if j = 26 then b else if j = 27 then o else if j = 31 then Int32.ofNat s else S.1 j)
  simp only [if_neg hj]
theorem qs_s20 {w' : Int32} : (va_up (qs S p w b o s a12 a13 a14 a15 a16).1 20 w', (qs S p w b o s a12 a13 a14 a15 a16).2) = qs S p w' b o s a12 a13 a14 a15 a16 := by
  refine Prod.ext (va_ext1 rfl fun j hj => ?_) rfl
  show (if j = 16 then Int32.ofNat p else if j = 20 then w' else if j = 26 then b else if j = 27 then o else if j = 31 then Int32.ofNat s else S.1 j) = (if j = 16 then Int32.ofNat p else if j = 20 then w else if j = 26 then b else if j = 27 then o else if j = 31 then Int32.ofNat s else S.1 j)
  simp only [if_neg hj]
theorem qs_s26 {b' : Int32} : (va_up (qs S p w b o s a12 a13 a14 a15 a16).1 26 b', (qs S p w b o s a12 a13 a14 a15 a16).2) = qs S p w b' o s a12 a13 a14 a15 a16 := by
  refine Prod.ext (va_ext1 rfl fun j hj => ?_) rfl
  show (if j = 16 then Int32.ofNat p else if j = 20 then w else if j = 26 then b' else if j = 27 then o else if j = 31 then Int32.ofNat s else S.1 j) = (if j = 16 then Int32.ofNat p else if j = 20 then w else if j = 26 then b else if j = 27 then o else if j = 31 then Int32.ofNat s else S.1 j)
  simp only [if_neg hj]
theorem qs_s27 {o' : Int32} : (va_up (qs S p w b o s a12 a13 a14 a15 a16).1 27 o', (qs S p w b o s a12 a13 a14 a15 a16).2) = qs S p w b o' s a12 a13 a14 a15 a16 := by
  refine Prod.ext (va_ext1 rfl fun j hj => ?_) rfl
  show (if j = 16 then Int32.ofNat p else if j = 20 then w else if j = 26 then b else if j = 27 then o' else if j = 31 then Int32.ofNat s else S.1 j) = (if j = 16 then Int32.ofNat p else if j = 20 then w else if j = 26 then b else if j = 27 then o else if j = 31 then Int32.ofNat s else S.1 j)
  simp only [if_neg hj]
theorem qs_s31 {s' : Nat} : (va_up (qs S p w b o s a12 a13 a14 a15 a16).1 31 (Int32.ofNat s'), (qs S p w b o s a12 a13 a14 a15 a16).2) = qs S p w b o s' a12 a13 a14 a15 a16 := by
  refine Prod.ext (va_ext1 rfl fun j hj => ?_) rfl
  show (if j = 16 then Int32.ofNat p else if j = 20 then w else if j = 26 then b else if j = 27 then o else if j = 31 then (Int32.ofNat s') else S.1 j) = (if j = 16 then Int32.ofNat p else if j = 20 then w else if j = 26 then b else if j = 27 then o else if j = 31 then Int32.ofNat s else S.1 j)
  simp only [if_neg hj]
theorem qs_t12 {x' : Nat → Int32} : ((qs S p w b o s a12 a13 a14 a15 a16).1, va_up (qs S p w b o s a12 a13 a14 a15 a16).2 12 x') = qs S p w b o s x' a13 a14 a15 a16 := by
  refine Prod.ext rfl (va_ext2 rfl fun j hj => ?_)
  show (if j = 12 then x' else if j = 13 then a13 else if j = 14 then a14 else if j = 15 then a15 else if j = 16 then a16 else S.2 j) = (if j = 12 then a12 else if j = 13 then a13 else if j = 14 then a14 else if j = 15 then a15 else if j = 16 then a16 else S.2 j)
  simp only [if_neg hj]
theorem qs_t13 {x' : Nat → Int32} : ((qs S p w b o s a12 a13 a14 a15 a16).1, va_up (qs S p w b o s a12 a13 a14 a15 a16).2 13 x') = qs S p w b o s a12 x' a14 a15 a16 := by
  refine Prod.ext rfl (va_ext2 rfl fun j hj => ?_)
  show (if j = 12 then a12 else if j = 13 then x' else if j = 14 then a14 else if j = 15 then a15 else if j = 16 then a16 else S.2 j) = (if j = 12 then a12 else if j = 13 then a13 else if j = 14 then a14 else if j = 15 then a15 else if j = 16 then a16 else S.2 j)
  simp only [if_neg hj]
theorem qs_t14 {x' : Nat → Int32} : ((qs S p w b o s a12 a13 a14 a15 a16).1, va_up (qs S p w b o s a12 a13 a14 a15 a16).2 14 x') = qs S p w b o s a12 a13 x' a15 a16 := by
  refine Prod.ext rfl (va_ext2 rfl fun j hj => ?_)
  show (if j = 12 then a12 else if j = 13 then a13 else if j = 14 then x' else if j = 15 then a15 else if j = 16 then a16 else S.2 j) = (if j = 12 then a12 else if j = 13 then a13 else if j = 14 then a14 else if j = 15 then a15 else if j = 16 then a16 else S.2 j)
  simp only [if_neg hj]
theorem qs_t15 {x' : Nat → Int32} : ((qs S p w b o s a12 a13 a14 a15 a16).1, va_up (qs S p w b o s a12 a13 a14 a15 a16).2 15 x') = qs S p w b o s a12 a13 a14 x' a16 := by
  refine Prod.ext rfl (va_ext2 rfl fun j hj => ?_)
  show (if j = 12 then a12 else if j = 13 then a13 else if j = 14 then a14 else if j = 15 then x' else if j = 16 then a16 else S.2 j) = (if j = 12 then a12 else if j = 13 then a13 else if j = 14 then a14 else if j = 15 then a15 else if j = 16 then a16 else S.2 j)
  simp only [if_neg hj]
theorem qs_t16 {x' : Nat → Int32} : ((qs S p w b o s a12 a13 a14 a15 a16).1, va_up (qs S p w b o s a12 a13 a14 a15 a16).2 16 x') = qs S p w b o s a12 a13 a14 a15 x' := by
  refine Prod.ext rfl (va_ext2 rfl fun j hj => ?_)
  show (if j = 12 then a12 else if j = 13 then a13 else if j = 14 then a14 else if j = 15 then a15 else if j = 16 then x' else S.2 j) = (if j = 12 then a12 else if j = 13 then a13 else if j = 14 then a14 else if j = 15 then a15 else if j = 16 then a16 else S.2 j)
  simp only [if_neg hj]
theorem qs_u16 {p' : Nat} : va_up (qs S p w b o s a12 a13 a14 a15 a16).1 16 (Int32.ofNat p') = (qs S p' w b o s a12 a13 a14 a15 a16).1 := congrArg Prod.fst (qs_s16 (p' := p'))
theorem qs_u20 {w' : Int32} : va_up (qs S p w b o s a12 a13 a14 a15 a16).1 20 w' = (qs S p w' b o s a12 a13 a14 a15 a16).1 := congrArg Prod.fst (qs_s20 (w' := w'))
theorem qs_u26 {b' : Int32} : va_up (qs S p w b o s a12 a13 a14 a15 a16).1 26 b' = (qs S p w b' o s a12 a13 a14 a15 a16).1 := congrArg Prod.fst (qs_s26 (b' := b'))
theorem qs_u27 {o' : Int32} : va_up (qs S p w b o s a12 a13 a14 a15 a16).1 27 o' = (qs S p w b o' s a12 a13 a14 a15 a16).1 := congrArg Prod.fst (qs_s27 (o' := o'))
theorem qs_u31 {s' : Nat} : va_up (qs S p w b o s a12 a13 a14 a15 a16).1 31 (Int32.ofNat s') = (qs S p w b o s' a12 a13 a14 a15 a16).1 := congrArg Prod.fst (qs_s31 (s' := s'))
theorem qs_v12 {x' : Nat → Int32} : va_up (qs S p w b o s a12 a13 a14 a15 a16).2 12 x' = (qs S p w b o s x' a13 a14 a15 a16).2 := congrArg Prod.snd (qs_t12 (x' := x'))
theorem qs_v13 {x' : Nat → Int32} : va_up (qs S p w b o s a12 a13 a14 a15 a16).2 13 x' = (qs S p w b o s a12 x' a14 a15 a16).2 := congrArg Prod.snd (qs_t13 (x' := x'))
theorem qs_v14 {x' : Nat → Int32} : va_up (qs S p w b o s a12 a13 a14 a15 a16).2 14 x' = (qs S p w b o s a12 a13 x' a15 a16).2 := congrArg Prod.snd (qs_t14 (x' := x'))
theorem qs_v15 {x' : Nat → Int32} : va_up (qs S p w b o s a12 a13 a14 a15 a16).2 15 x' = (qs S p w b o s a12 a13 a14 x' a16).2 := congrArg Prod.snd (qs_t15 (x' := x'))
theorem qs_v16 {x' : Nat → Int32} : va_up (qs S p w b o s a12 a13 a14 a15 a16).2 16 x' = (qs S p w b o s a12 a13 a14 a15 x').2 := congrArg Prod.snd (qs_t16 (x' := x'))
theorem qs_pr {p2 s2 : Nat} {w2 b2 o2 : Int32} {c12 c13 c14 c15 c16 : Nat → Int32} : ((qs S p w b o s a12 a13 a14 a15 a16).1, (qs S p2 w2 b2 o2 s2 c12 c13 c14 c15 c16).2) = qs S p w b o s c12 c13 c14 c15 c16 := rfl
end QS
