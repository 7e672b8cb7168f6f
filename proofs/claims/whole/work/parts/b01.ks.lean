/-! ### The reference's places for judging -/
def ks (S : MS) (fc : Nat) (od : Nat) (rn : Nat) (uf : Int32) (an : Int32) (ho : Int32) (fs : Int32) (al : Int32) (a17 : Nat → Int32) (a18 : Nat → Int32) (a19 : Nat → Int32) (a20 : Nat → Int32) (a21 : Nat → Int32) : MS := (fun k => if k = 32 then Int32.ofNat fc else if k = 33 then Int32.ofNat od else if k = 36 then Int32.ofNat rn else if k = 37 then uf else if k = 42 then an else if k = 43 then ho else if k = 44 then fs else if k = 45 then al else S.1 k, fun j => if j = 17 then a17 else if j = 18 then a18 else if j = 19 then a19 else if j = 20 then a20 else if j = 21 then a21 else S.2 j)
section KS
variable {S : MS} {fc : Nat} {od : Nat} {rn : Nat} {uf : Int32} {an : Int32} {ho : Int32} {fs : Int32} {al : Int32} {a17 a18 a19 a20 a21 : Nat → Int32}
theorem ks_g32 : (ks S fc od rn uf an ho fs al a17 a18 a19 a20 a21).1 32 = Int32.ofNat fc := rfl
theorem ks_g33 : (ks S fc od rn uf an ho fs al a17 a18 a19 a20 a21).1 33 = Int32.ofNat od := rfl
theorem ks_g36 : (ks S fc od rn uf an ho fs al a17 a18 a19 a20 a21).1 36 = Int32.ofNat rn := rfl
theorem ks_g37 : (ks S fc od rn uf an ho fs al a17 a18 a19 a20 a21).1 37 = uf := rfl
theorem ks_g42 : (ks S fc od rn uf an ho fs al a17 a18 a19 a20 a21).1 42 = an := rfl
theorem ks_g43 : (ks S fc od rn uf an ho fs al a17 a18 a19 a20 a21).1 43 = ho := rfl
theorem ks_g44 : (ks S fc od rn uf an ho fs al a17 a18 a19 a20 a21).1 44 = fs := rfl
theorem ks_g45 : (ks S fc od rn uf an ho fs al a17 a18 a19 a20 a21).1 45 = al := rfl
theorem ks_g4 : (ks S fc od rn uf an ho fs al a17 a18 a19 a20 a21).1 4 = S.1 4 := rfl
theorem ks_g7 : (ks S fc od rn uf an ho fs al a17 a18 a19 a20 a21).1 7 = S.1 7 := rfl
theorem ks_g8 : (ks S fc od rn uf an ho fs al a17 a18 a19 a20 a21).1 8 = S.1 8 := rfl
theorem ks_g9 : (ks S fc od rn uf an ho fs al a17 a18 a19 a20 a21).1 9 = S.1 9 := rfl
theorem ks_g15 : (ks S fc od rn uf an ho fs al a17 a18 a19 a20 a21).1 15 = S.1 15 := rfl
theorem ks_h17 : (ks S fc od rn uf an ho fs al a17 a18 a19 a20 a21).2 17 = a17 := rfl
theorem ks_h18 : (ks S fc od rn uf an ho fs al a17 a18 a19 a20 a21).2 18 = a18 := rfl
theorem ks_h19 : (ks S fc od rn uf an ho fs al a17 a18 a19 a20 a21).2 19 = a19 := rfl
theorem ks_h20 : (ks S fc od rn uf an ho fs al a17 a18 a19 a20 a21).2 20 = a20 := rfl
theorem ks_h21 : (ks S fc od rn uf an ho fs al a17 a18 a19 a20 a21).2 21 = a21 := rfl
theorem ks_h3 : (ks S fc od rn uf an ho fs al a17 a18 a19 a20 a21).2 3 = S.2 3 := rfl
theorem ks_h4 : (ks S fc od rn uf an ho fs al a17 a18 a19 a20 a21).2 4 = S.2 4 := rfl
theorem ks_h5 : (ks S fc od rn uf an ho fs al a17 a18 a19 a20 a21).2 5 = S.2 5 := rfl
theorem ks_h6 : (ks S fc od rn uf an ho fs al a17 a18 a19 a20 a21).2 6 = S.2 6 := rfl
theorem ks_h7 : (ks S fc od rn uf an ho fs al a17 a18 a19 a20 a21).2 7 = S.2 7 := rfl
theorem ks_h8 : (ks S fc od rn uf an ho fs al a17 a18 a19 a20 a21).2 8 = S.2 8 := rfl
theorem ks_h9 : (ks S fc od rn uf an ho fs al a17 a18 a19 a20 a21).2 9 = S.2 9 := rfl
theorem ks_h10 : (ks S fc od rn uf an ho fs al a17 a18 a19 a20 a21).2 10 = S.2 10 := rfl
theorem ks_h11 : (ks S fc od rn uf an ho fs al a17 a18 a19 a20 a21).2 11 = S.2 11 := rfl
theorem ks_h12 : (ks S fc od rn uf an ho fs al a17 a18 a19 a20 a21).2 12 = S.2 12 := rfl
theorem ks_h13 : (ks S fc od rn uf an ho fs al a17 a18 a19 a20 a21).2 13 = S.2 13 := rfl
theorem ks_h14 : (ks S fc od rn uf an ho fs al a17 a18 a19 a20 a21).2 14 = S.2 14 := rfl
theorem ks_h15 : (ks S fc od rn uf an ho fs al a17 a18 a19 a20 a21).2 15 = S.2 15 := rfl
theorem ks_u32 {x' : Nat} : va_up (ks S fc od rn uf an ho fs al a17 a18 a19 a20 a21).1 32 (Int32.ofNat x') = (ks S x' od rn uf an ho fs al a17 a18 a19 a20 a21).1 := by
  refine va_ext1 rfl fun k hk => ?_
  show (if k = 32 then Int32.ofNat x' else if k = 33 then Int32.ofNat od else if k = 36 then Int32.ofNat rn else if k = 37 then uf else if k = 42 then an else if k = 43 then ho else if k = 44 then fs else if k = 45 then al else S.1 k) = (if k = 32 then Int32.ofNat fc else if k = 33 then Int32.ofNat od else if k = 36 then Int32.ofNat rn else if k = 37 then uf else if k = 42 then an else if k = 43 then ho else if k = 44 then fs else if k = 45 then al else S.1 k)
  simp only [if_neg hk]
theorem ks_u33 {x' : Nat} : va_up (ks S fc od rn uf an ho fs al a17 a18 a19 a20 a21).1 33 (Int32.ofNat x') = (ks S fc x' rn uf an ho fs al a17 a18 a19 a20 a21).1 := by
  refine va_ext1 rfl fun k hk => ?_
  show (if k = 32 then Int32.ofNat fc else if k = 33 then Int32.ofNat x' else if k = 36 then Int32.ofNat rn else if k = 37 then uf else if k = 42 then an else if k = 43 then ho else if k = 44 then fs else if k = 45 then al else S.1 k) = (if k = 32 then Int32.ofNat fc else if k = 33 then Int32.ofNat od else if k = 36 then Int32.ofNat rn else if k = 37 then uf else if k = 42 then an else if k = 43 then ho else if k = 44 then fs else if k = 45 then al else S.1 k)
  simp only [if_neg hk]
theorem ks_u36 {x' : Nat} : va_up (ks S fc od rn uf an ho fs al a17 a18 a19 a20 a21).1 36 (Int32.ofNat x') = (ks S fc od x' uf an ho fs al a17 a18 a19 a20 a21).1 := by
  refine va_ext1 rfl fun k hk => ?_
  show (if k = 32 then Int32.ofNat fc else if k = 33 then Int32.ofNat od else if k = 36 then Int32.ofNat x' else if k = 37 then uf else if k = 42 then an else if k = 43 then ho else if k = 44 then fs else if k = 45 then al else S.1 k) = (if k = 32 then Int32.ofNat fc else if k = 33 then Int32.ofNat od else if k = 36 then Int32.ofNat rn else if k = 37 then uf else if k = 42 then an else if k = 43 then ho else if k = 44 then fs else if k = 45 then al else S.1 k)
  simp only [if_neg hk]
theorem ks_u37 {x' : Int32} : va_up (ks S fc od rn uf an ho fs al a17 a18 a19 a20 a21).1 37 x' = (ks S fc od rn x' an ho fs al a17 a18 a19 a20 a21).1 := by
  refine va_ext1 rfl fun k hk => ?_
  show (if k = 32 then Int32.ofNat fc else if k = 33 then Int32.ofNat od else if k = 36 then Int32.ofNat rn else if k = 37 then x' else if k = 42 then an else if k = 43 then ho else if k = 44 then fs else if k = 45 then al else S.1 k) = (if k = 32 then Int32.ofNat fc else if k = 33 then Int32.ofNat od else if k = 36 then Int32.ofNat rn else if k = 37 then uf else if k = 42 then an else if k = 43 then ho else if k = 44 then fs else if k = 45 then al else S.1 k)
  simp only [if_neg hk]
theorem ks_u42 {x' : Int32} : va_up (ks S fc od rn uf an ho fs al a17 a18 a19 a20 a21).1 42 x' = (ks S fc od rn uf x' ho fs al a17 a18 a19 a20 a21).1 := by
  refine va_ext1 rfl fun k hk => ?_
  show (if k = 32 then Int32.ofNat fc else if k = 33 then Int32.ofNat od else if k = 36 then Int32.ofNat rn else if k = 37 then uf else if k = 42 then x' else if k = 43 then ho else if k = 44 then fs else if k = 45 then al else S.1 k) = (if k = 32 then Int32.ofNat fc else if k = 33 then Int32.ofNat od else if k = 36 then Int32.ofNat rn else if k = 37 then uf else if k = 42 then an else if k = 43 then ho else if k = 44 then fs else if k = 45 then al else S.1 k)
  simp only [if_neg hk]
theorem ks_u43 {x' : Int32} : va_up (ks S fc od rn uf an ho fs al a17 a18 a19 a20 a21).1 43 x' = (ks S fc od rn uf an x' fs al a17 a18 a19 a20 a21).1 := by
  refine va_ext1 rfl fun k hk => ?_
  show (if k = 32 then Int32.ofNat fc else if k = 33 then Int32.ofNat od else if k = 36 then Int32.ofNat rn else if k = 37 then uf else if k = 42 then an else if k = 43 then x' else if k = 44 then fs else if k = 45 then al else S.1 k) = (if k = 32 then Int32.ofNat fc else if k = 33 then Int32.ofNat od else if k = 36 then Int32.ofNat rn else if k = 37 then uf else if k = 42 then an else if k = 43 then ho else if k = 44 then fs else if k = 45 then al else S.1 k)
  simp only [if_neg hk]
theorem ks_u44 {x' : Int32} : va_up (ks S fc od rn uf an ho fs al a17 a18 a19 a20 a21).1 44 x' = (ks S fc od rn uf an ho x' al a17 a18 a19 a20 a21).1 := by
  refine va_ext1 rfl fun k hk => ?_
  show (if k = 32 then Int32.ofNat fc else if k = 33 then Int32.ofNat od else if k = 36 then Int32.ofNat rn else if k = 37 then uf else if k = 42 then an else if k = 43 then ho else if k = 44 then x' else if k = 45 then al else S.1 k) = (if k = 32 then Int32.ofNat fc else if k = 33 then Int32.ofNat od else if k = 36 then Int32.ofNat rn else if k = 37 then uf else if k = 42 then an else if k = 43 then ho else if k = 44 then fs else if k = 45 then al else S.1 k)
  simp only [if_neg hk]
theorem ks_u45 {x' : Int32} : va_up (ks S fc od rn uf an ho fs al a17 a18 a19 a20 a21).1 45 x' = (ks S fc od rn uf an ho fs x' a17 a18 a19 a20 a21).1 := by
  refine va_ext1 rfl fun k hk => ?_
  show (if k = 32 then Int32.ofNat fc else if k = 33 then Int32.ofNat od else if k = 36 then Int32.ofNat rn else if k = 37 then uf else if k = 42 then an else if k = 43 then ho else if k = 44 then fs else if k = 45 then x' else S.1 k) = (if k = 32 then Int32.ofNat fc else if k = 33 then Int32.ofNat od else if k = 36 then Int32.ofNat rn else if k = 37 then uf else if k = 42 then an else if k = 43 then ho else if k = 44 then fs else if k = 45 then al else S.1 k)
  simp only [if_neg hk]
theorem ks_v17 {x' : Nat → Int32} : va_up (ks S fc od rn uf an ho fs al a17 a18 a19 a20 a21).2 17 x' = (ks S fc od rn uf an ho fs al x' a18 a19 a20 a21).2 := by
  refine va_ext2 rfl fun j hj => ?_
  show (if j = 17 then x' else if j = 18 then a18 else if j = 19 then a19 else if j = 20 then a20 else if j = 21 then a21 else S.2 j) = (if j = 17 then a17 else if j = 18 then a18 else if j = 19 then a19 else if j = 20 then a20 else if j = 21 then a21 else S.2 j)
  simp only [if_neg hj]
theorem ks_v18 {x' : Nat → Int32} : va_up (ks S fc od rn uf an ho fs al a17 a18 a19 a20 a21).2 18 x' = (ks S fc od rn uf an ho fs al a17 x' a19 a20 a21).2 := by
  refine va_ext2 rfl fun j hj => ?_
  show (if j = 17 then a17 else if j = 18 then x' else if j = 19 then a19 else if j = 20 then a20 else if j = 21 then a21 else S.2 j) = (if j = 17 then a17 else if j = 18 then a18 else if j = 19 then a19 else if j = 20 then a20 else if j = 21 then a21 else S.2 j)
  simp only [if_neg hj]
theorem ks_v19 {x' : Nat → Int32} : va_up (ks S fc od rn uf an ho fs al a17 a18 a19 a20 a21).2 19 x' = (ks S fc od rn uf an ho fs al a17 a18 x' a20 a21).2 := by
  refine va_ext2 rfl fun j hj => ?_
  show (if j = 17 then a17 else if j = 18 then a18 else if j = 19 then x' else if j = 20 then a20 else if j = 21 then a21 else S.2 j) = (if j = 17 then a17 else if j = 18 then a18 else if j = 19 then a19 else if j = 20 then a20 else if j = 21 then a21 else S.2 j)
  simp only [if_neg hj]
theorem ks_v20 {x' : Nat → Int32} : va_up (ks S fc od rn uf an ho fs al a17 a18 a19 a20 a21).2 20 x' = (ks S fc od rn uf an ho fs al a17 a18 a19 x' a21).2 := by
  refine va_ext2 rfl fun j hj => ?_
  show (if j = 17 then a17 else if j = 18 then a18 else if j = 19 then a19 else if j = 20 then x' else if j = 21 then a21 else S.2 j) = (if j = 17 then a17 else if j = 18 then a18 else if j = 19 then a19 else if j = 20 then a20 else if j = 21 then a21 else S.2 j)
  simp only [if_neg hj]
theorem ks_v21 {x' : Nat → Int32} : va_up (ks S fc od rn uf an ho fs al a17 a18 a19 a20 a21).2 21 x' = (ks S fc od rn uf an ho fs al a17 a18 a19 a20 x').2 := by
  refine va_ext2 rfl fun j hj => ?_
  show (if j = 17 then a17 else if j = 18 then a18 else if j = 19 then a19 else if j = 20 then a20 else if j = 21 then x' else S.2 j) = (if j = 17 then a17 else if j = 18 then a18 else if j = 19 then a19 else if j = 20 then a20 else if j = 21 then a21 else S.2 j)
  simp only [if_neg hj]
theorem ks_pr {fc2 : Nat} {od2 : Nat} {rn2 : Nat} {uf2 : Int32} {an2 : Int32} {ho2 : Int32} {fs2 : Int32} {al2 : Int32} {c17 c18 c19 c20 c21 : Nat → Int32} : ((ks S fc od rn uf an ho fs al a17 a18 a19 a20 a21).1, (ks S fc2 od2 rn2 uf2 an2 ho2 fs2 al2 c17 c18 c19 c20 c21).2) = ks S fc od rn uf an ho fs al c17 c18 c19 c20 c21 := rfl
end KS
