/-! ### The reference's places for texts and tokens -/
def ts (S : MS) (th : Int32) (de : Nat) (bl : Nat) (ke : Nat) (to : Nat) (a1 : Nat → Int32) (a2 : Nat → Int32) (a3 : Nat → Int32) (a4 : Nat → Int32) (a5 : Nat → Int32) (a6 : Nat → Int32) (a7 : Nat → Int32) (a8 : Nat → Int32) : MS := (fun k => if k = 0 then th else if k = 4 then Int32.ofNat de else if k = 5 then Int32.ofNat bl else if k = 6 then Int32.ofNat ke else if k = 9 then Int32.ofNat to else S.1 k, fun j => if j = 1 then a1 else if j = 2 then a2 else if j = 3 then a3 else if j = 4 then a4 else if j = 5 then a5 else if j = 6 then a6 else if j = 7 then a7 else if j = 8 then a8 else S.2 j)
section TS
variable {S : MS} {th : Int32} {de : Nat} {bl : Nat} {ke : Nat} {to : Nat} {a1 a2 a3 a4 a5 a6 a7 a8 : Nat → Int32}
theorem ts_g0 : (ts S th de bl ke to a1 a2 a3 a4 a5 a6 a7 a8).1 0 = th := rfl
theorem ts_g4 : (ts S th de bl ke to a1 a2 a3 a4 a5 a6 a7 a8).1 4 = Int32.ofNat de := rfl
theorem ts_g5 : (ts S th de bl ke to a1 a2 a3 a4 a5 a6 a7 a8).1 5 = Int32.ofNat bl := rfl
theorem ts_g6 : (ts S th de bl ke to a1 a2 a3 a4 a5 a6 a7 a8).1 6 = Int32.ofNat ke := rfl
theorem ts_g9 : (ts S th de bl ke to a1 a2 a3 a4 a5 a6 a7 a8).1 9 = Int32.ofNat to := rfl
theorem ts_g7 : (ts S th de bl ke to a1 a2 a3 a4 a5 a6 a7 a8).1 7 = S.1 7 := rfl
theorem ts_g8 : (ts S th de bl ke to a1 a2 a3 a4 a5 a6 a7 a8).1 8 = S.1 8 := rfl
theorem ts_g15 : (ts S th de bl ke to a1 a2 a3 a4 a5 a6 a7 a8).1 15 = S.1 15 := rfl
theorem ts_g32 : (ts S th de bl ke to a1 a2 a3 a4 a5 a6 a7 a8).1 32 = S.1 32 := rfl
theorem ts_g33 : (ts S th de bl ke to a1 a2 a3 a4 a5 a6 a7 a8).1 33 = S.1 33 := rfl
theorem ts_g35 : (ts S th de bl ke to a1 a2 a3 a4 a5 a6 a7 a8).1 35 = S.1 35 := rfl
theorem ts_g36 : (ts S th de bl ke to a1 a2 a3 a4 a5 a6 a7 a8).1 36 = S.1 36 := rfl
theorem ts_g37 : (ts S th de bl ke to a1 a2 a3 a4 a5 a6 a7 a8).1 37 = S.1 37 := rfl
theorem ts_h1 : (ts S th de bl ke to a1 a2 a3 a4 a5 a6 a7 a8).2 1 = a1 := rfl
theorem ts_h2 : (ts S th de bl ke to a1 a2 a3 a4 a5 a6 a7 a8).2 2 = a2 := rfl
theorem ts_h3 : (ts S th de bl ke to a1 a2 a3 a4 a5 a6 a7 a8).2 3 = a3 := rfl
theorem ts_h4 : (ts S th de bl ke to a1 a2 a3 a4 a5 a6 a7 a8).2 4 = a4 := rfl
theorem ts_h5 : (ts S th de bl ke to a1 a2 a3 a4 a5 a6 a7 a8).2 5 = a5 := rfl
theorem ts_h6 : (ts S th de bl ke to a1 a2 a3 a4 a5 a6 a7 a8).2 6 = a6 := rfl
theorem ts_h7 : (ts S th de bl ke to a1 a2 a3 a4 a5 a6 a7 a8).2 7 = a7 := rfl
theorem ts_h8 : (ts S th de bl ke to a1 a2 a3 a4 a5 a6 a7 a8).2 8 = a8 := rfl
theorem ts_h9 : (ts S th de bl ke to a1 a2 a3 a4 a5 a6 a7 a8).2 9 = S.2 9 := rfl
theorem ts_h10 : (ts S th de bl ke to a1 a2 a3 a4 a5 a6 a7 a8).2 10 = S.2 10 := rfl
theorem ts_h11 : (ts S th de bl ke to a1 a2 a3 a4 a5 a6 a7 a8).2 11 = S.2 11 := rfl
theorem ts_h12 : (ts S th de bl ke to a1 a2 a3 a4 a5 a6 a7 a8).2 12 = S.2 12 := rfl
theorem ts_h13 : (ts S th de bl ke to a1 a2 a3 a4 a5 a6 a7 a8).2 13 = S.2 13 := rfl
theorem ts_h14 : (ts S th de bl ke to a1 a2 a3 a4 a5 a6 a7 a8).2 14 = S.2 14 := rfl
theorem ts_h15 : (ts S th de bl ke to a1 a2 a3 a4 a5 a6 a7 a8).2 15 = S.2 15 := rfl
theorem ts_h16 : (ts S th de bl ke to a1 a2 a3 a4 a5 a6 a7 a8).2 16 = S.2 16 := rfl
theorem ts_h17 : (ts S th de bl ke to a1 a2 a3 a4 a5 a6 a7 a8).2 17 = S.2 17 := rfl
theorem ts_h18 : (ts S th de bl ke to a1 a2 a3 a4 a5 a6 a7 a8).2 18 = S.2 18 := rfl
theorem ts_h19 : (ts S th de bl ke to a1 a2 a3 a4 a5 a6 a7 a8).2 19 = S.2 19 := rfl
theorem ts_h20 : (ts S th de bl ke to a1 a2 a3 a4 a5 a6 a7 a8).2 20 = S.2 20 := rfl
theorem ts_h21 : (ts S th de bl ke to a1 a2 a3 a4 a5 a6 a7 a8).2 21 = S.2 21 := rfl
theorem ts_u0 {x' : Int32} : va_up (ts S th de bl ke to a1 a2 a3 a4 a5 a6 a7 a8).1 0 x' = (ts S x' de bl ke to a1 a2 a3 a4 a5 a6 a7 a8).1 := by
  refine va_ext1 rfl fun k hk => ?_
  show (if k = 0 then x' else if k = 4 then Int32.ofNat de else if k = 5 then Int32.ofNat bl else if k = 6 then Int32.ofNat ke else if k = 9 then Int32.ofNat to else S.1 k) = (if k = 0 then th else if k = 4 then Int32.ofNat de else if k = 5 then Int32.ofNat bl else if k = 6 then Int32.ofNat ke else if k = 9 then Int32.ofNat to else S.1 k)
  simp only [if_neg hk]
theorem ts_u4 {x' : Nat} : va_up (ts S th de bl ke to a1 a2 a3 a4 a5 a6 a7 a8).1 4 (Int32.ofNat x') = (ts S th x' bl ke to a1 a2 a3 a4 a5 a6 a7 a8).1 := by
  refine va_ext1 rfl fun k hk => ?_
  show (if k = 0 then th else if k = 4 then Int32.ofNat x' else if k = 5 then Int32.ofNat bl else if k = 6 then Int32.ofNat ke else if k = 9 then Int32.ofNat to else S.1 k) = (if k = 0 then th else if k = 4 then Int32.ofNat de else if k = 5 then Int32.ofNat bl else if k = 6 then Int32.ofNat ke else if k = 9 then Int32.ofNat to else S.1 k)
  simp only [if_neg hk]
theorem ts_u5 {x' : Nat} : va_up (ts S th de bl ke to a1 a2 a3 a4 a5 a6 a7 a8).1 5 (Int32.ofNat x') = (ts S th de x' ke to a1 a2 a3 a4 a5 a6 a7 a8).1 := by
  refine va_ext1 rfl fun k hk => ?_
  show (if k = 0 then th else if k = 4 then Int32.ofNat de else if k = 5 then Int32.ofNat x' else if k = 6 then Int32.ofNat ke else if k = 9 then Int32.ofNat to else S.1 k) = (if k = 0 then th else if k = 4 then Int32.ofNat de else if k = 5 then Int32.ofNat bl else if k = 6 then Int32.ofNat ke else if k = 9 then Int32.ofNat to else S.1 k)
  simp only [if_neg hk]
theorem ts_u6 {x' : Nat} : va_up (ts S th de bl ke to a1 a2 a3 a4 a5 a6 a7 a8).1 6 (Int32.ofNat x') = (ts S th de bl x' to a1 a2 a3 a4 a5 a6 a7 a8).1 := by
  refine va_ext1 rfl fun k hk => ?_
  show (if k = 0 then th else if k = 4 then Int32.ofNat de else if k = 5 then Int32.ofNat bl else if k = 6 then Int32.ofNat x' else if k = 9 then Int32.ofNat to else S.1 k) = (if k = 0 then th else if k = 4 then Int32.ofNat de else if k = 5 then Int32.ofNat bl else if k = 6 then Int32.ofNat ke else if k = 9 then Int32.ofNat to else S.1 k)
  simp only [if_neg hk]
theorem ts_u9 {x' : Nat} : va_up (ts S th de bl ke to a1 a2 a3 a4 a5 a6 a7 a8).1 9 (Int32.ofNat x') = (ts S th de bl ke x' a1 a2 a3 a4 a5 a6 a7 a8).1 := by
  refine va_ext1 rfl fun k hk => ?_
  show (if k = 0 then th else if k = 4 then Int32.ofNat de else if k = 5 then Int32.ofNat bl else if k = 6 then Int32.ofNat ke else if k = 9 then Int32.ofNat x' else S.1 k) = (if k = 0 then th else if k = 4 then Int32.ofNat de else if k = 5 then Int32.ofNat bl else if k = 6 then Int32.ofNat ke else if k = 9 then Int32.ofNat to else S.1 k)
  simp only [if_neg hk]
theorem ts_v1 {x' : Nat → Int32} : va_up (ts S th de bl ke to a1 a2 a3 a4 a5 a6 a7 a8).2 1 x' = (ts S th de bl ke to x' a2 a3 a4 a5 a6 a7 a8).2 := by
  refine va_ext2 rfl fun j hj => ?_
  show (if j = 1 then x' else if j = 2 then a2 else if j = 3 then a3 else if j = 4 then a4 else if j = 5 then a5 else if j = 6 then a6 else if j = 7 then a7 else if j = 8 then a8 else S.2 j) = (if j = 1 then a1 else if j = 2 then a2 else if j = 3 then a3 else if j = 4 then a4 else if j = 5 then a5 else if j = 6 then a6 else if j = 7 then a7 else if j = 8 then a8 else S.2 j)
  simp only [if_neg hj]
theorem ts_v2 {x' : Nat → Int32} : va_up (ts S th de bl ke to a1 a2 a3 a4 a5 a6 a7 a8).2 2 x' = (ts S th de bl ke to a1 x' a3 a4 a5 a6 a7 a8).2 := by
  refine va_ext2 rfl fun j hj => ?_
  show (if j = 1 then a1 else if j = 2 then x' else if j = 3 then a3 else if j = 4 then a4 else if j = 5 then a5 else if j = 6 then a6 else if j = 7 then a7 else if j = 8 then a8 else S.2 j) = (if j = 1 then a1 else if j = 2 then a2 else if j = 3 then a3 else if j = 4 then a4 else if j = 5 then a5 else if j = 6 then a6 else if j = 7 then a7 else if j = 8 then a8 else S.2 j)
  simp only [if_neg hj]
theorem ts_v3 {x' : Nat → Int32} : va_up (ts S th de bl ke to a1 a2 a3 a4 a5 a6 a7 a8).2 3 x' = (ts S th de bl ke to a1 a2 x' a4 a5 a6 a7 a8).2 := by
  refine va_ext2 rfl fun j hj => ?_
  show (if j = 1 then a1 else if j = 2 then a2 else if j = 3 then x' else if j = 4 then a4 else if j = 5 then a5 else if j = 6 then a6 else if j = 7 then a7 else if j = 8 then a8 else S.2 j) = (if j = 1 then a1 else if j = 2 then a2 else if j = 3 then a3 else if j = 4 then a4 else if j = 5 then a5 else if j = 6 then a6 else if j = 7 then a7 else if j = 8 then a8 else S.2 j)
  simp only [if_neg hj]
theorem ts_v4 {x' : Nat → Int32} : va_up (ts S th de bl ke to a1 a2 a3 a4 a5 a6 a7 a8).2 4 x' = (ts S th de bl ke to a1 a2 a3 x' a5 a6 a7 a8).2 := by
  refine va_ext2 rfl fun j hj => ?_
  show (if j = 1 then a1 else if j = 2 then a2 else if j = 3 then a3 else if j = 4 then x' else if j = 5 then a5 else if j = 6 then a6 else if j = 7 then a7 else if j = 8 then a8 else S.2 j) = (if j = 1 then a1 else if j = 2 then a2 else if j = 3 then a3 else if j = 4 then a4 else if j = 5 then a5 else if j = 6 then a6 else if j = 7 then a7 else if j = 8 then a8 else S.2 j)
  simp only [if_neg hj]
theorem ts_v5 {x' : Nat → Int32} : va_up (ts S th de bl ke to a1 a2 a3 a4 a5 a6 a7 a8).2 5 x' = (ts S th de bl ke to a1 a2 a3 a4 x' a6 a7 a8).2 := by
  refine va_ext2 rfl fun j hj => ?_
  show (if j = 1 then a1 else if j = 2 then a2 else if j = 3 then a3 else if j = 4 then a4 else if j = 5 then x' else if j = 6 then a6 else if j = 7 then a7 else if j = 8 then a8 else S.2 j) = (if j = 1 then a1 else if j = 2 then a2 else if j = 3 then a3 else if j = 4 then a4 else if j = 5 then a5 else if j = 6 then a6 else if j = 7 then a7 else if j = 8 then a8 else S.2 j)
  simp only [if_neg hj]
theorem ts_v6 {x' : Nat → Int32} : va_up (ts S th de bl ke to a1 a2 a3 a4 a5 a6 a7 a8).2 6 x' = (ts S th de bl ke to a1 a2 a3 a4 a5 x' a7 a8).2 := by
  refine va_ext2 rfl fun j hj => ?_
  show (if j = 1 then a1 else if j = 2 then a2 else if j = 3 then a3 else if j = 4 then a4 else if j = 5 then a5 else if j = 6 then x' else if j = 7 then a7 else if j = 8 then a8 else S.2 j) = (if j = 1 then a1 else if j = 2 then a2 else if j = 3 then a3 else if j = 4 then a4 else if j = 5 then a5 else if j = 6 then a6 else if j = 7 then a7 else if j = 8 then a8 else S.2 j)
  simp only [if_neg hj]
theorem ts_v7 {x' : Nat → Int32} : va_up (ts S th de bl ke to a1 a2 a3 a4 a5 a6 a7 a8).2 7 x' = (ts S th de bl ke to a1 a2 a3 a4 a5 a6 x' a8).2 := by
  refine va_ext2 rfl fun j hj => ?_
  show (if j = 1 then a1 else if j = 2 then a2 else if j = 3 then a3 else if j = 4 then a4 else if j = 5 then a5 else if j = 6 then a6 else if j = 7 then x' else if j = 8 then a8 else S.2 j) = (if j = 1 then a1 else if j = 2 then a2 else if j = 3 then a3 else if j = 4 then a4 else if j = 5 then a5 else if j = 6 then a6 else if j = 7 then a7 else if j = 8 then a8 else S.2 j)
  simp only [if_neg hj]
theorem ts_v8 {x' : Nat → Int32} : va_up (ts S th de bl ke to a1 a2 a3 a4 a5 a6 a7 a8).2 8 x' = (ts S th de bl ke to a1 a2 a3 a4 a5 a6 a7 x').2 := by
  refine va_ext2 rfl fun j hj => ?_
  show (if j = 1 then a1 else if j = 2 then a2 else if j = 3 then a3 else if j = 4 then a4 else if j = 5 then a5 else if j = 6 then a6 else if j = 7 then a7 else if j = 8 then x' else S.2 j) = (if j = 1 then a1 else if j = 2 then a2 else if j = 3 then a3 else if j = 4 then a4 else if j = 5 then a5 else if j = 6 then a6 else if j = 7 then a7 else if j = 8 then a8 else S.2 j)
  simp only [if_neg hj]
theorem ts_pr {th2 : Int32} {de2 : Nat} {bl2 : Nat} {ke2 : Nat} {to2 : Nat} {c1 c2 c3 c4 c5 c6 c7 c8 : Nat → Int32} : ((ts S th de bl ke to a1 a2 a3 a4 a5 a6 a7 a8).1, (ts S th2 de2 bl2 ke2 to2 c1 c2 c3 c4 c5 c6 c7 c8).2) = ts S th de bl ke to c1 c2 c3 c4 c5 c6 c7 c8 := rfl
end TS
