/-! ### What a line says: the grammar, over the characters c and the length n -/
def g_sk (c : Nat → Nat) : Nat → Nat → Nat
  | 0, p => p
  | d + 1, p => if c p = 32 then g_sk c d (p + 1) else p
def g_s (c : Nat → Nat) (n p : Nat) : Nat := g_sk c (n - p) p
def g_c (c : Nat → Nat) (n p : Nat) : Nat := if p < n then c p else 0
def g_h (c : Nat → Nat) (n p : Nat) : Nat := g_c c n (g_s c n p)
def g_t (c : Nat → Nat) (n p x : Nat) : Option Nat := if g_h c n p = x then some (g_s c n p + 1) else none
def g_dc (c : Nat → Nat) (n : Nat) : Nat → Nat → Nat
  | 0, _ => 0
  | d + 1, p => if p < n ∧ 48 ≤ c p ∧ c p ≤ 57 then g_dc c n d (p + 1) + 1 else 0
def g_dv (c : Nat → Nat) : Nat → Nat → Nat → Nat
  | 0, _, v => v
  | m + 1, p, v => g_dv c m (p + 1) (v * 10 + (c p - 48))
def g_d (c : Nat → Nat) (n p : Nat) : Option (Nat × Nat) := if g_dc c n 5 p = 0 ∨ g_dc c n 5 p = 5 then none else some (g_dv c (g_dc c n 5 p) p 0, p + g_dc c n 5 p)
abbrev g_A : Type := Nat × Nat × Int × Int
def g_tm (c : Nat → Nat) (n p : Nat) : Option (Int × Nat) :=
  if 65 ≤ g_h c n p ∧ g_h c n p ≤ 72 then some (1048576 + ((g_h c n p - 65 : Nat) : Int), g_s c n p + 1)
  else if g_h c n p = 45 then (g_d c n (g_s c n p + 1)).bind fun r => some (-(r.1 : Int), r.2)
  else (g_d c n (g_s c n p)).bind fun r => some ((r.1 : Int), r.2)
def g_at (c : Nat → Nat) (n p : Nat) : Option (g_A × Nat) :=
  if 97 ≤ g_h c n p ∧ g_h c n p ≤ 122 then
    match g_t c n (g_s c n p + 1) 40 with
    | none => some ((g_h c n p - 97, 0, 0, 0), g_s c n (g_s c n p + 1))
    | some p1 => (g_tm c n p1).bind fun r1 => match g_t c n r1.2 41 with
      | some p3 => some ((g_h c n p - 97, 1, r1.1, 0), p3)
      | none => (g_t c n r1.2 44).bind fun p3 => (g_tm c n p3).bind fun r2 => (g_t c n r2.2 41).bind fun p5 => some ((g_h c n p - 97, 2, r1.1, r2.1), p5)
  else none
def g_bit (t : Int) : Int32 := if t < 1048576 then 0 else (Int32.ofInt 1) <<< ((Int32.ofInt t - 1048576) &&& 31)
def g_vs (a : g_A) : Int32 := g_bit a.2.2.1 ||| g_bit a.2.2.2
/-- is the next sign a star with nothing behind it -/
def g_ls (c : Nat → Nat) (n p : Nat) : Bool := decide (g_h c n p = 42) && decide (g_s c n (g_s c n p + 1) = n)
abbrev g_E : Type := Nat × List Int × Int32
def g_fac (K : Nat → List Int → Int32 → Option g_E) (c : Nat → Nat) (n op p : Nat) (l : List Int) (m : Int32) : Option g_E :=
  if g_h c n p = 40 then (if 4 ≤ op then none else (K (g_s c n p + 1) l m).bind fun r => (g_t c n r.1 41).bind fun p2 => some (p2, r.2.1, r.2.2))
  else if 65 ≤ g_h c n p ∧ g_h c n p ≤ 72 then some (g_s c n p + 1, l ++ [1048576 + ((g_h c n p - 65 : Nat) : Int)], m ||| g_bit (1048576 + ((g_h c n p - 65 : Nat) : Int)))
  else (g_d c n (g_s c n p)).bind fun r => some (r.2, l ++ [(r.1 : Int)], m)
def g_prl (K : Nat → List Int → Int32 → Option g_E) (c : Nat → Nat) (n op : Nat) : Nat → Nat → List Int → Int32 → Option g_E
  | 0, p, l, m => some (p, l, m)
  | d + 1, p, l, m => if g_ls c n p = true then some (g_s c n p, l, m) else match g_t c n p 42 with
    | some p1 => (g_fac K c n op p1 l m).bind fun r => g_prl K c n op d r.1 (r.2.1 ++ [-42]) r.2.2
    | none => match g_t c n p 47 with
      | some p1 => (g_fac K c n op p1 l m).bind fun r => g_prl K c n op d r.1 (r.2.1 ++ [-47]) r.2.2
      | none => some (g_s c n p, l, m)
def g_pro (K : Nat → List Int → Int32 → Option g_E) (c : Nat → Nat) (n op p : Nat) (l : List Int) (m : Int32) : Option g_E := (g_fac K c n op p l m).bind fun r => g_prl K c n op 40 r.1 r.2.1 r.2.2
def g_sml (K : Nat → List Int → Int32 → Option g_E) (c : Nat → Nat) (n op : Nat) : Nat → Nat → List Int → Int32 → Option g_E
  | 0, p, l, m => some (p, l, m)
  | d + 1, p, l, m => match g_t c n p 43 with
    | some p1 => (g_pro K c n op p1 l m).bind fun r => g_sml K c n op d r.1 (r.2.1 ++ [-43]) r.2.2
    | none => match g_t c n p 45 with
      | some p1 => (g_pro K c n op p1 l m).bind fun r => g_sml K c n op d r.1 (r.2.1 ++ [-45]) r.2.2
      | none => some (g_s c n p, l, m)
def g_sm (K : Nat → List Int → Int32 → Option g_E) (c : Nat → Nat) (n op p : Nat) (l : List Int) (m : Int32) : Option g_E := (g_pro K c n op p l m).bind fun r => g_sml K c n op 40 r.1 r.2.1 r.2.2
def g_sum (c : Nat → Nat) (n : Nat) : Nat → Nat → Nat → List Int → Int32 → Option g_E
  | 0, _, _, _, _ => none
  | d + 1, op, p, l, m => g_sm (g_sum c n d (op + 1)) c n op p l m
def g_isc (x : Nat) : Bool := x == 60 || x == 62 || x == 61 || x == 35
def g_cmp (c : Nat → Nat) (n p : Nat) (l : List Int) (m : Int32) : Option g_E :=
  (g_sum c n 6 0 p l m).bind fun r => if g_isc (g_h c n r.1) = true then (g_sum c n 6 0 (g_s c n r.1 + 1) r.2.1 r.2.2).bind fun r2 => some (r2.1, r2.2.1 ++ [-((g_h c n r.1 : Nat) : Int)], r2.2.2) else none
def g_cms (c : Nat → Nat) (n : Nat) : Nat → Nat → List Int → Int32 → Option g_E
  | 0, _, _, _ => none
  | d + 1, p, l, m => (g_cmp c n p l m).bind fun r => match g_t c n r.1 44 with
    | none => some (g_s c n r.1, r.2.1, r.2.2)
    | some p2 => g_cms c n d p2 r.2.1 r.2.2
/-- atoms, and the comparisons behind them: the atoms, their variables, and the rest -/
def g_bd (c : Nat → Nat) (n : Nat) (m : Int32) : Nat → Nat → List g_A → Int32 → Option ((List g_A × Int32) × g_E)
  | 0, p, as, bv => (g_cms c n 2 p [] m).bind fun r => some ((as, bv), r)
  | d + 1, p, as, bv => (g_at c n p).bind fun r => match g_t c n r.2 44 with
    | none => some ((as ++ [r.1], bv ||| g_vs r.1), (g_s c n r.2, [], m))
    | some p2 => if 97 ≤ g_h c n p2 ∧ g_h c n p2 ≤ 122 then g_bd c n m d (g_s c n p2) (as ++ [r.1]) (bv ||| g_vs r.1)
      else (g_cms c n 2 (g_s c n p2) [] m).bind fun r2 => some ((as ++ [r.1], bv ||| g_vs r.1), r2)
/-- kind, star, head, body, steps -/
abbrev g_Cl : Type := Nat × Bool × Option g_A × List g_A × List Int
def g_end (c : Nat → Nat) (n k : Nat) (hd : Option g_A) (as : List g_A) (l : List Int) (nv bv : Int32) (s : Bool) (p : Nat) : Option g_Cl :=
  if g_h c n p = 0 then (if nv &&& (bv ^^^ (Int32.ofInt (-1))) = 0 then some (k, s, hd, as, l) else none) else none
def g_tail (c : Nat → Nat) (n k : Nat) (hd : Option g_A) (nv : Int32) (p : Nat) : Option g_Cl :=
  (g_bd c n nv 3 p [] 0).bind fun r => match g_t c n r.2.1 42 with
    | some p2 => g_end c n k hd r.1.1 r.2.2.1 r.2.2.2 r.1.2 true p2
    | none => g_end c n k hd r.1.1 r.2.2.1 r.2.2.2 r.1.2 false (g_s c n r.2.1)
def g_rd (c : Nat → Nat) (n : Nat) : Option g_Cl :=
  if g_h c n 0 = 63 then g_tail c n 2 none 0 (g_s c n 0 + 1)
  else if g_h c n 0 = 33 then g_tail c n 3 none 0 (g_s c n 0 + 1)
  else if g_h c n 0 = 43 then g_tail c n 4 none 0 (g_s c n 0 + 1)
  else if g_h c n 0 = 45 then g_tail c n 5 none 0 (g_s c n 0 + 1)
  else (g_at c n (g_s c n 0)).bind fun r => match g_t c n r.2 61 with
    | some p => g_tail c n 1 (some r.1) (g_vs r.1) p
    | none => g_end c n 0 (some r.1) [] [] (g_vs r.1) 0 false (g_s c n r.2)
