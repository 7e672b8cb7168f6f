/-! Md_tamper, Md_limits, Md_right, Md_load, Md_worth -/
def fn_Md_tamper_364 (N : Nat) (x9 : Int32) (S : MS) : Option (Int32 × MS) := some ((x9), S)
def fn_Md_tamper_212 (N : Nat) (k200 : Int32 → Int32 → Int32 → Int32 → Int32 → MS → Option (Int32 × MS)) (x2 : Int32) (x3 : Int32) (x4 : Int32) (x9 : Int32) (x10 : Int32) (s0 : Int32) (s1 : Int32) (S : MS) : Option (Int32 × MS) := if (s1) ≤ (s0) then (fn_Md_tamper_364 N (x9) S) else ((fn_Md_change N (x9) (x3) (x4) (x10) S).bind fun r1 => k200 (x2) (x3) (x4) (x9) ((x10) + Int32.ofInt (1)) r1.2)
def fn_Md_tamper_200 (N : Nat) : Nat → Int32 → Int32 → Int32 → Int32 → Int32 → MS → Option (Int32 × MS)
  | 0, _, _, _, _, _, _ => none
  | n + 1, x2, x3, x4, x9, x10, S => if (x2) = (Int32.ofInt 1) then (fn_Md_tamper_212 N (fn_Md_tamper_200 N n) (x2) (x3) (x4) (x9) (x10) (x10) (Int32.ofInt 1) S) else (fn_Md_tamper_212 N (fn_Md_tamper_200 N n) (x2) (x3) (x4) (x9) (x10) (x10) (Int32.ofInt 5) S)
theorem fe_Md_tamper_200 (N : Nat) (n : Nat) (x2 : Int32) (x3 : Int32) (x4 : Int32) (x9 : Int32) (x10 : Int32) (S : MS) : fn_Md_tamper_200 N (n + 1) x2 x3 x4 x9 x10 S = (if (x2) = (Int32.ofInt 1) then (fn_Md_tamper_212 N (fn_Md_tamper_200 N n) (x2) (x3) (x4) (x9) (x10) (x10) (Int32.ofInt 1) S) else (fn_Md_tamper_212 N (fn_Md_tamper_200 N n) (x2) (x3) (x4) (x9) (x10) (x10) (Int32.ofInt 5) S)) := rfl
def fn_Md_tamper_155 (N : Nat) (x1 : Int32) (x2 : Int32) (x3 : Int32) (x4 : Int32) (s1 : Int32) (S : MS) : Option (Int32 × MS) := if ((va_up S.1 0 (s1), S.2).1 0) ≤ (0) then ((fn_Md_like N (x1) (va_up S.1 0 (s1), S.2)).bind fun r1 => if (x2) = (0) then (if md_in (r1.1) (md_len 4) = true then (if md_in (r1.1) (md_len 4) = true then (fn_Md_tamper_364 N (r1.1) (r1.2.1, va_up r1.2.2 4 (upd (r1.2.2 4) (r1.1).toNatClampNeg ((r1.2.2 4 (r1.1).toNatClampNeg) - (Int32.ofInt 1))))) else none) else none) else (if (Int32.ofInt 3) ≤ (x2) then (if (x2) = (Int32.ofInt 3) then (if md_in ((((Int8.ofInt (20)).toInt32) * (r1.1)) + ((Int32.ofInt 5) * (x3))) (md_len 5) = true then (fn_Md_tamper_364 N (r1.1) (r1.2.1, va_up r1.2.2 5 (upd (r1.2.2 5) ((((Int8.ofInt (20)).toInt32) * (r1.1)) + ((Int32.ofInt 5) * (x3))).toNatClampNeg (r1.2.1 5)))) else none) else (if (x2) = ((Int8.ofInt (6)).toInt32) then ((fn_Md_link N (r1.1) (x3) (Int32.ofInt 0) r1.2).bind fun r2 => (fn_Md_link N (r1.1) (x3) (Int32.ofInt 1) r2.2).bind fun r3 => if md_in (r1.1) (md_len 7) = true then ((fn_Md_setLink N (r1.1) (x3) (r2.1) (r3.1) (r3.2.2 7 (r1.1).toNatClampNeg) r3.2).bind fun r4 => fn_Md_tamper_364 N (r1.1) r4.2) else none) else (if md_in (((((Int8.ofInt (20)).toInt32) * (r1.1)) + ((Int32.ofInt 5) * (x3))) + (Int32.ofInt 1)) (md_len 5) = true then (if (x2) = (Int32.ofInt 5) then (if md_in (r1.1) (md_len 4) = true then (if md_in (r1.1) (md_len 6) = true then (if md_in (r1.1) (md_len 7) = true then (fn_Md_tamper_364 N (r1.1) (((((va_up r1.2.1 6 ((r1.2.1 6) + (Int32.ofInt 1)), r1.2.2).1, va_up (va_up r1.2.1 6 ((r1.2.1 6) + (Int32.ofInt 1)), r1.2.2).2 5 (upd ((va_up r1.2.1 6 ((r1.2.1 6) + (Int32.ofInt 1)), r1.2.2).2 5) (((((Int8.ofInt (20)).toInt32) * (r1.1)) + ((Int32.ofInt 5) * (x3))) + (Int32.ofInt 1)).toNatClampNeg ((va_up r1.2.1 6 ((r1.2.1 6) + (Int32.ofInt 1)), r1.2.2).1 6))).1, va_up ((va_up r1.2.1 6 ((r1.2.1 6) + (Int32.ofInt 1)), r1.2.2).1, va_up (va_up r1.2.1 6 ((r1.2.1 6) + (Int32.ofInt 1)), r1.2.2).2 5 (upd ((va_up r1.2.1 6 ((r1.2.1 6) + (Int32.ofInt 1)), r1.2.2).2 5) (((((Int8.ofInt (20)).toInt32) * (r1.1)) + ((Int32.ofInt 5) * (x3))) + (Int32.ofInt 1)).toNatClampNeg ((va_up r1.2.1 6 ((r1.2.1 6) + (Int32.ofInt 1)), r1.2.2).1 6))).2 4 (upd (((va_up r1.2.1 6 ((r1.2.1 6) + (Int32.ofInt 1)), r1.2.2).1, va_up (va_up r1.2.1 6 ((r1.2.1 6) + (Int32.ofInt 1)), r1.2.2).2 5 (upd ((va_up r1.2.1 6 ((r1.2.1 6) + (Int32.ofInt 1)), r1.2.2).2 5) (((((Int8.ofInt (20)).toInt32) * (r1.1)) + ((Int32.ofInt 5) * (x3))) + (Int32.ofInt 1)).toNatClampNeg ((va_up r1.2.1 6 ((r1.2.1 6) + (Int32.ofInt 1)), r1.2.2).1 6))).2 4) (r1.1).toNatClampNeg ((x3) + (Int32.ofInt 1)))).1, va_up (((va_up r1.2.1 6 ((r1.2.1 6) + (Int32.ofInt 1)), r1.2.2).1, va_up (va_up r1.2.1 6 ((r1.2.1 6) + (Int32.ofInt 1)), r1.2.2).2 5 (upd ((va_up r1.2.1 6 ((r1.2.1 6) + (Int32.ofInt 1)), r1.2.2).2 5) (((((Int8.ofInt (20)).toInt32) * (r1.1)) + ((Int32.ofInt 5) * (x3))) + (Int32.ofInt 1)).toNatClampNeg ((va_up r1.2.1 6 ((r1.2.1 6) + (Int32.ofInt 1)), r1.2.2).1 6))).1, va_up ((va_up r1.2.1 6 ((r1.2.1 6) + (Int32.ofInt 1)), r1.2.2).1, va_up (va_up r1.2.1 6 ((r1.2.1 6) + (Int32.ofInt 1)), r1.2.2).2 5 (upd ((va_up r1.2.1 6 ((r1.2.1 6) + (Int32.ofInt 1)), r1.2.2).2 5) (((((Int8.ofInt (20)).toInt32) * (r1.1)) + ((Int32.ofInt 5) * (x3))) + (Int32.ofInt 1)).toNatClampNeg ((va_up r1.2.1 6 ((r1.2.1 6) + (Int32.ofInt 1)), r1.2.2).1 6))).2 4 (upd (((va_up r1.2.1 6 ((r1.2.1 6) + (Int32.ofInt 1)), r1.2.2).1, va_up (va_up r1.2.1 6 ((r1.2.1 6) + (Int32.ofInt 1)), r1.2.2).2 5 (upd ((va_up r1.2.1 6 ((r1.2.1 6) + (Int32.ofInt 1)), r1.2.2).2 5) (((((Int8.ofInt (20)).toInt32) * (r1.1)) + ((Int32.ofInt 5) * (x3))) + (Int32.ofInt 1)).toNatClampNeg ((va_up r1.2.1 6 ((r1.2.1 6) + (Int32.ofInt 1)), r1.2.2).1 6))).2 4) (r1.1).toNatClampNeg ((x3) + (Int32.ofInt 1)))).2 6 (upd ((((va_up r1.2.1 6 ((r1.2.1 6) + (Int32.ofInt 1)), r1.2.2).1, va_up (va_up r1.2.1 6 ((r1.2.1 6) + (Int32.ofInt 1)), r1.2.2).2 5 (upd ((va_up r1.2.1 6 ((r1.2.1 6) + (Int32.ofInt 1)), r1.2.2).2 5) (((((Int8.ofInt (20)).toInt32) * (r1.1)) + ((Int32.ofInt 5) * (x3))) + (Int32.ofInt 1)).toNatClampNeg ((va_up r1.2.1 6 ((r1.2.1 6) + (Int32.ofInt 1)), r1.2.2).1 6))).1, va_up ((va_up r1.2.1 6 ((r1.2.1 6) + (Int32.ofInt 1)), r1.2.2).1, va_up (va_up r1.2.1 6 ((r1.2.1 6) + (Int32.ofInt 1)), r1.2.2).2 5 (upd ((va_up r1.2.1 6 ((r1.2.1 6) + (Int32.ofInt 1)), r1.2.2).2 5) (((((Int8.ofInt (20)).toInt32) * (r1.1)) + ((Int32.ofInt 5) * (x3))) + (Int32.ofInt 1)).toNatClampNeg ((va_up r1.2.1 6 ((r1.2.1 6) + (Int32.ofInt 1)), r1.2.2).1 6))).2 4 (upd (((va_up r1.2.1 6 ((r1.2.1 6) + (Int32.ofInt 1)), r1.2.2).1, va_up (va_up r1.2.1 6 ((r1.2.1 6) + (Int32.ofInt 1)), r1.2.2).2 5 (upd ((va_up r1.2.1 6 ((r1.2.1 6) + (Int32.ofInt 1)), r1.2.2).2 5) (((((Int8.ofInt (20)).toInt32) * (r1.1)) + ((Int32.ofInt 5) * (x3))) + (Int32.ofInt 1)).toNatClampNeg ((va_up r1.2.1 6 ((r1.2.1 6) + (Int32.ofInt 1)), r1.2.2).1 6))).2 4) (r1.1).toNatClampNeg ((x3) + (Int32.ofInt 1)))).2 6) (r1.1).toNatClampNeg (vp_nar .boolean (Int32.ofInt 0)))).1, va_up ((((va_up r1.2.1 6 ((r1.2.1 6) + (Int32.ofInt 1)), r1.2.2).1, va_up (va_up r1.2.1 6 ((r1.2.1 6) + (Int32.ofInt 1)), r1.2.2).2 5 (upd ((va_up r1.2.1 6 ((r1.2.1 6) + (Int32.ofInt 1)), r1.2.2).2 5) (((((Int8.ofInt (20)).toInt32) * (r1.1)) + ((Int32.ofInt 5) * (x3))) + (Int32.ofInt 1)).toNatClampNeg ((va_up r1.2.1 6 ((r1.2.1 6) + (Int32.ofInt 1)), r1.2.2).1 6))).1, va_up ((va_up r1.2.1 6 ((r1.2.1 6) + (Int32.ofInt 1)), r1.2.2).1, va_up (va_up r1.2.1 6 ((r1.2.1 6) + (Int32.ofInt 1)), r1.2.2).2 5 (upd ((va_up r1.2.1 6 ((r1.2.1 6) + (Int32.ofInt 1)), r1.2.2).2 5) (((((Int8.ofInt (20)).toInt32) * (r1.1)) + ((Int32.ofInt 5) * (x3))) + (Int32.ofInt 1)).toNatClampNeg ((va_up r1.2.1 6 ((r1.2.1 6) + (Int32.ofInt 1)), r1.2.2).1 6))).2 4 (upd (((va_up r1.2.1 6 ((r1.2.1 6) + (Int32.ofInt 1)), r1.2.2).1, va_up (va_up r1.2.1 6 ((r1.2.1 6) + (Int32.ofInt 1)), r1.2.2).2 5 (upd ((va_up r1.2.1 6 ((r1.2.1 6) + (Int32.ofInt 1)), r1.2.2).2 5) (((((Int8.ofInt (20)).toInt32) * (r1.1)) + ((Int32.ofInt 5) * (x3))) + (Int32.ofInt 1)).toNatClampNeg ((va_up r1.2.1 6 ((r1.2.1 6) + (Int32.ofInt 1)), r1.2.2).1 6))).2 4) (r1.1).toNatClampNeg ((x3) + (Int32.ofInt 1)))).1, va_up (((va_up r1.2.1 6 ((r1.2.1 6) + (Int32.ofInt 1)), r1.2.2).1, va_up (va_up r1.2.1 6 ((r1.2.1 6) + (Int32.ofInt 1)), r1.2.2).2 5 (upd ((va_up r1.2.1 6 ((r1.2.1 6) + (Int32.ofInt 1)), r1.2.2).2 5) (((((Int8.ofInt (20)).toInt32) * (r1.1)) + ((Int32.ofInt 5) * (x3))) + (Int32.ofInt 1)).toNatClampNeg ((va_up r1.2.1 6 ((r1.2.1 6) + (Int32.ofInt 1)), r1.2.2).1 6))).1, va_up ((va_up r1.2.1 6 ((r1.2.1 6) + (Int32.ofInt 1)), r1.2.2).1, va_up (va_up r1.2.1 6 ((r1.2.1 6) + (Int32.ofInt 1)), r1.2.2).2 5 (upd ((va_up r1.2.1 6 ((r1.2.1 6) + (Int32.ofInt 1)), r1.2.2).2 5) (((((Int8.ofInt (20)).toInt32) * (r1.1)) + ((Int32.ofInt 5) * (x3))) + (Int32.ofInt 1)).toNatClampNeg ((va_up r1.2.1 6 ((r1.2.1 6) + (Int32.ofInt 1)), r1.2.2).1 6))).2 4 (upd (((va_up r1.2.1 6 ((r1.2.1 6) + (Int32.ofInt 1)), r1.2.2).1, va_up (va_up r1.2.1 6 ((r1.2.1 6) + (Int32.ofInt 1)), r1.2.2).2 5 (upd ((va_up r1.2.1 6 ((r1.2.1 6) + (Int32.ofInt 1)), r1.2.2).2 5) (((((Int8.ofInt (20)).toInt32) * (r1.1)) + ((Int32.ofInt 5) * (x3))) + (Int32.ofInt 1)).toNatClampNeg ((va_up r1.2.1 6 ((r1.2.1 6) + (Int32.ofInt 1)), r1.2.2).1 6))).2 4) (r1.1).toNatClampNeg ((x3) + (Int32.ofInt 1)))).2 6 (upd ((((va_up r1.2.1 6 ((r1.2.1 6) + (Int32.ofInt 1)), r1.2.2).1, va_up (va_up r1.2.1 6 ((r1.2.1 6) + (Int32.ofInt 1)), r1.2.2).2 5 (upd ((va_up r1.2.1 6 ((r1.2.1 6) + (Int32.ofInt 1)), r1.2.2).2 5) (((((Int8.ofInt (20)).toInt32) * (r1.1)) + ((Int32.ofInt 5) * (x3))) + (Int32.ofInt 1)).toNatClampNeg ((va_up r1.2.1 6 ((r1.2.1 6) + (Int32.ofInt 1)), r1.2.2).1 6))).1, va_up ((va_up r1.2.1 6 ((r1.2.1 6) + (Int32.ofInt 1)), r1.2.2).1, va_up (va_up r1.2.1 6 ((r1.2.1 6) + (Int32.ofInt 1)), r1.2.2).2 5 (upd ((va_up r1.2.1 6 ((r1.2.1 6) + (Int32.ofInt 1)), r1.2.2).2 5) (((((Int8.ofInt (20)).toInt32) * (r1.1)) + ((Int32.ofInt 5) * (x3))) + (Int32.ofInt 1)).toNatClampNeg ((va_up r1.2.1 6 ((r1.2.1 6) + (Int32.ofInt 1)), r1.2.2).1 6))).2 4 (upd (((va_up r1.2.1 6 ((r1.2.1 6) + (Int32.ofInt 1)), r1.2.2).1, va_up (va_up r1.2.1 6 ((r1.2.1 6) + (Int32.ofInt 1)), r1.2.2).2 5 (upd ((va_up r1.2.1 6 ((r1.2.1 6) + (Int32.ofInt 1)), r1.2.2).2 5) (((((Int8.ofInt (20)).toInt32) * (r1.1)) + ((Int32.ofInt 5) * (x3))) + (Int32.ofInt 1)).toNatClampNeg ((va_up r1.2.1 6 ((r1.2.1 6) + (Int32.ofInt 1)), r1.2.2).1 6))).2 4) (r1.1).toNatClampNeg ((x3) + (Int32.ofInt 1)))).2 6) (r1.1).toNatClampNeg (vp_nar .boolean (Int32.ofInt 0)))).2 7 (upd (((((va_up r1.2.1 6 ((r1.2.1 6) + (Int32.ofInt 1)), r1.2.2).1, va_up (va_up r1.2.1 6 ((r1.2.1 6) + (Int32.ofInt 1)), r1.2.2).2 5 (upd ((va_up r1.2.1 6 ((r1.2.1 6) + (Int32.ofInt 1)), r1.2.2).2 5) (((((Int8.ofInt (20)).toInt32) * (r1.1)) + ((Int32.ofInt 5) * (x3))) + (Int32.ofInt 1)).toNatClampNeg ((va_up r1.2.1 6 ((r1.2.1 6) + (Int32.ofInt 1)), r1.2.2).1 6))).1, va_up ((va_up r1.2.1 6 ((r1.2.1 6) + (Int32.ofInt 1)), r1.2.2).1, va_up (va_up r1.2.1 6 ((r1.2.1 6) + (Int32.ofInt 1)), r1.2.2).2 5 (upd ((va_up r1.2.1 6 ((r1.2.1 6) + (Int32.ofInt 1)), r1.2.2).2 5) (((((Int8.ofInt (20)).toInt32) * (r1.1)) + ((Int32.ofInt 5) * (x3))) + (Int32.ofInt 1)).toNatClampNeg ((va_up r1.2.1 6 ((r1.2.1 6) + (Int32.ofInt 1)), r1.2.2).1 6))).2 4 (upd (((va_up r1.2.1 6 ((r1.2.1 6) + (Int32.ofInt 1)), r1.2.2).1, va_up (va_up r1.2.1 6 ((r1.2.1 6) + (Int32.ofInt 1)), r1.2.2).2 5 (upd ((va_up r1.2.1 6 ((r1.2.1 6) + (Int32.ofInt 1)), r1.2.2).2 5) (((((Int8.ofInt (20)).toInt32) * (r1.1)) + ((Int32.ofInt 5) * (x3))) + (Int32.ofInt 1)).toNatClampNeg ((va_up r1.2.1 6 ((r1.2.1 6) + (Int32.ofInt 1)), r1.2.2).1 6))).2 4) (r1.1).toNatClampNeg ((x3) + (Int32.ofInt 1)))).1, va_up (((va_up r1.2.1 6 ((r1.2.1 6) + (Int32.ofInt 1)), r1.2.2).1, va_up (va_up r1.2.1 6 ((r1.2.1 6) + (Int32.ofInt 1)), r1.2.2).2 5 (upd ((va_up r1.2.1 6 ((r1.2.1 6) + (Int32.ofInt 1)), r1.2.2).2 5) (((((Int8.ofInt (20)).toInt32) * (r1.1)) + ((Int32.ofInt 5) * (x3))) + (Int32.ofInt 1)).toNatClampNeg ((va_up r1.2.1 6 ((r1.2.1 6) + (Int32.ofInt 1)), r1.2.2).1 6))).1, va_up ((va_up r1.2.1 6 ((r1.2.1 6) + (Int32.ofInt 1)), r1.2.2).1, va_up (va_up r1.2.1 6 ((r1.2.1 6) + (Int32.ofInt 1)), r1.2.2).2 5 (upd ((va_up r1.2.1 6 ((r1.2.1 6) + (Int32.ofInt 1)), r1.2.2).2 5) (((((Int8.ofInt (20)).toInt32) * (r1.1)) + ((Int32.ofInt 5) * (x3))) + (Int32.ofInt 1)).toNatClampNeg ((va_up r1.2.1 6 ((r1.2.1 6) + (Int32.ofInt 1)), r1.2.2).1 6))).2 4 (upd (((va_up r1.2.1 6 ((r1.2.1 6) + (Int32.ofInt 1)), r1.2.2).1, va_up (va_up r1.2.1 6 ((r1.2.1 6) + (Int32.ofInt 1)), r1.2.2).2 5 (upd ((va_up r1.2.1 6 ((r1.2.1 6) + (Int32.ofInt 1)), r1.2.2).2 5) (((((Int8.ofInt (20)).toInt32) * (r1.1)) + ((Int32.ofInt 5) * (x3))) + (Int32.ofInt 1)).toNatClampNeg ((va_up r1.2.1 6 ((r1.2.1 6) + (Int32.ofInt 1)), r1.2.2).1 6))).2 4) (r1.1).toNatClampNeg ((x3) + (Int32.ofInt 1)))).2 6 (upd ((((va_up r1.2.1 6 ((r1.2.1 6) + (Int32.ofInt 1)), r1.2.2).1, va_up (va_up r1.2.1 6 ((r1.2.1 6) + (Int32.ofInt 1)), r1.2.2).2 5 (upd ((va_up r1.2.1 6 ((r1.2.1 6) + (Int32.ofInt 1)), r1.2.2).2 5) (((((Int8.ofInt (20)).toInt32) * (r1.1)) + ((Int32.ofInt 5) * (x3))) + (Int32.ofInt 1)).toNatClampNeg ((va_up r1.2.1 6 ((r1.2.1 6) + (Int32.ofInt 1)), r1.2.2).1 6))).1, va_up ((va_up r1.2.1 6 ((r1.2.1 6) + (Int32.ofInt 1)), r1.2.2).1, va_up (va_up r1.2.1 6 ((r1.2.1 6) + (Int32.ofInt 1)), r1.2.2).2 5 (upd ((va_up r1.2.1 6 ((r1.2.1 6) + (Int32.ofInt 1)), r1.2.2).2 5) (((((Int8.ofInt (20)).toInt32) * (r1.1)) + ((Int32.ofInt 5) * (x3))) + (Int32.ofInt 1)).toNatClampNeg ((va_up r1.2.1 6 ((r1.2.1 6) + (Int32.ofInt 1)), r1.2.2).1 6))).2 4 (upd (((va_up r1.2.1 6 ((r1.2.1 6) + (Int32.ofInt 1)), r1.2.2).1, va_up (va_up r1.2.1 6 ((r1.2.1 6) + (Int32.ofInt 1)), r1.2.2).2 5 (upd ((va_up r1.2.1 6 ((r1.2.1 6) + (Int32.ofInt 1)), r1.2.2).2 5) (((((Int8.ofInt (20)).toInt32) * (r1.1)) + ((Int32.ofInt 5) * (x3))) + (Int32.ofInt 1)).toNatClampNeg ((va_up r1.2.1 6 ((r1.2.1 6) + (Int32.ofInt 1)), r1.2.2).1 6))).2 4) (r1.1).toNatClampNeg ((x3) + (Int32.ofInt 1)))).2 6) (r1.1).toNatClampNeg (vp_nar .boolean (Int32.ofInt 0)))).2 7) (r1.1).toNatClampNeg (((((va_up r1.2.1 6 ((r1.2.1 6) + (Int32.ofInt 1)), r1.2.2).1, va_up (va_up r1.2.1 6 ((r1.2.1 6) + (Int32.ofInt 1)), r1.2.2).2 5 (upd ((va_up r1.2.1 6 ((r1.2.1 6) + (Int32.ofInt 1)), r1.2.2).2 5) (((((Int8.ofInt (20)).toInt32) * (r1.1)) + ((Int32.ofInt 5) * (x3))) + (Int32.ofInt 1)).toNatClampNeg ((va_up r1.2.1 6 ((r1.2.1 6) + (Int32.ofInt 1)), r1.2.2).1 6))).1, va_up ((va_up r1.2.1 6 ((r1.2.1 6) + (Int32.ofInt 1)), r1.2.2).1, va_up (va_up r1.2.1 6 ((r1.2.1 6) + (Int32.ofInt 1)), r1.2.2).2 5 (upd ((va_up r1.2.1 6 ((r1.2.1 6) + (Int32.ofInt 1)), r1.2.2).2 5) (((((Int8.ofInt (20)).toInt32) * (r1.1)) + ((Int32.ofInt 5) * (x3))) + (Int32.ofInt 1)).toNatClampNeg ((va_up r1.2.1 6 ((r1.2.1 6) + (Int32.ofInt 1)), r1.2.2).1 6))).2 4 (upd (((va_up r1.2.1 6 ((r1.2.1 6) + (Int32.ofInt 1)), r1.2.2).1, va_up (va_up r1.2.1 6 ((r1.2.1 6) + (Int32.ofInt 1)), r1.2.2).2 5 (upd ((va_up r1.2.1 6 ((r1.2.1 6) + (Int32.ofInt 1)), r1.2.2).2 5) (((((Int8.ofInt (20)).toInt32) * (r1.1)) + ((Int32.ofInt 5) * (x3))) + (Int32.ofInt 1)).toNatClampNeg ((va_up r1.2.1 6 ((r1.2.1 6) + (Int32.ofInt 1)), r1.2.2).1 6))).2 4) (r1.1).toNatClampNeg ((x3) + (Int32.ofInt 1)))).1, va_up (((va_up r1.2.1 6 ((r1.2.1 6) + (Int32.ofInt 1)), r1.2.2).1, va_up (va_up r1.2.1 6 ((r1.2.1 6) + (Int32.ofInt 1)), r1.2.2).2 5 (upd ((va_up r1.2.1 6 ((r1.2.1 6) + (Int32.ofInt 1)), r1.2.2).2 5) (((((Int8.ofInt (20)).toInt32) * (r1.1)) + ((Int32.ofInt 5) * (x3))) + (Int32.ofInt 1)).toNatClampNeg ((va_up r1.2.1 6 ((r1.2.1 6) + (Int32.ofInt 1)), r1.2.2).1 6))).1, va_up ((va_up r1.2.1 6 ((r1.2.1 6) + (Int32.ofInt 1)), r1.2.2).1, va_up (va_up r1.2.1 6 ((r1.2.1 6) + (Int32.ofInt 1)), r1.2.2).2 5 (upd ((va_up r1.2.1 6 ((r1.2.1 6) + (Int32.ofInt 1)), r1.2.2).2 5) (((((Int8.ofInt (20)).toInt32) * (r1.1)) + ((Int32.ofInt 5) * (x3))) + (Int32.ofInt 1)).toNatClampNeg ((va_up r1.2.1 6 ((r1.2.1 6) + (Int32.ofInt 1)), r1.2.2).1 6))).2 4 (upd (((va_up r1.2.1 6 ((r1.2.1 6) + (Int32.ofInt 1)), r1.2.2).1, va_up (va_up r1.2.1 6 ((r1.2.1 6) + (Int32.ofInt 1)), r1.2.2).2 5 (upd ((va_up r1.2.1 6 ((r1.2.1 6) + (Int32.ofInt 1)), r1.2.2).2 5) (((((Int8.ofInt (20)).toInt32) * (r1.1)) + ((Int32.ofInt 5) * (x3))) + (Int32.ofInt 1)).toNatClampNeg ((va_up r1.2.1 6 ((r1.2.1 6) + (Int32.ofInt 1)), r1.2.2).1 6))).2 4) (r1.1).toNatClampNeg ((x3) + (Int32.ofInt 1)))).2 6 (upd ((((va_up r1.2.1 6 ((r1.2.1 6) + (Int32.ofInt 1)), r1.2.2).1, va_up (va_up r1.2.1 6 ((r1.2.1 6) + (Int32.ofInt 1)), r1.2.2).2 5 (upd ((va_up r1.2.1 6 ((r1.2.1 6) + (Int32.ofInt 1)), r1.2.2).2 5) (((((Int8.ofInt (20)).toInt32) * (r1.1)) + ((Int32.ofInt 5) * (x3))) + (Int32.ofInt 1)).toNatClampNeg ((va_up r1.2.1 6 ((r1.2.1 6) + (Int32.ofInt 1)), r1.2.2).1 6))).1, va_up ((va_up r1.2.1 6 ((r1.2.1 6) + (Int32.ofInt 1)), r1.2.2).1, va_up (va_up r1.2.1 6 ((r1.2.1 6) + (Int32.ofInt 1)), r1.2.2).2 5 (upd ((va_up r1.2.1 6 ((r1.2.1 6) + (Int32.ofInt 1)), r1.2.2).2 5) (((((Int8.ofInt (20)).toInt32) * (r1.1)) + ((Int32.ofInt 5) * (x3))) + (Int32.ofInt 1)).toNatClampNeg ((va_up r1.2.1 6 ((r1.2.1 6) + (Int32.ofInt 1)), r1.2.2).1 6))).2 4 (upd (((va_up r1.2.1 6 ((r1.2.1 6) + (Int32.ofInt 1)), r1.2.2).1, va_up (va_up r1.2.1 6 ((r1.2.1 6) + (Int32.ofInt 1)), r1.2.2).2 5 (upd ((va_up r1.2.1 6 ((r1.2.1 6) + (Int32.ofInt 1)), r1.2.2).2 5) (((((Int8.ofInt (20)).toInt32) * (r1.1)) + ((Int32.ofInt 5) * (x3))) + (Int32.ofInt 1)).toNatClampNeg ((va_up r1.2.1 6 ((r1.2.1 6) + (Int32.ofInt 1)), r1.2.2).1 6))).2 4) (r1.1).toNatClampNeg ((x3) + (Int32.ofInt 1)))).2 6) (r1.1).toNatClampNeg (vp_nar .boolean (Int32.ofInt 0)))).1 6)))) else none) else none) else none) else (fn_Md_tamper_364 N (r1.1) ((va_up r1.2.1 6 ((r1.2.1 6) + (Int32.ofInt 1)), r1.2.2).1, va_up (va_up r1.2.1 6 ((r1.2.1 6) + (Int32.ofInt 1)), r1.2.2).2 5 (upd ((va_up r1.2.1 6 ((r1.2.1 6) + (Int32.ofInt 1)), r1.2.2).2 5) (((((Int8.ofInt (20)).toInt32) * (r1.1)) + ((Int32.ofInt 5) * (x3))) + (Int32.ofInt 1)).toNatClampNeg ((va_up r1.2.1 6 ((r1.2.1 6) + (Int32.ofInt 1)), r1.2.2).1 6))))) else none))) else (fn_Md_tamper_200 N N (x2) (x3) (x4) (r1.1) (Int32.ofInt 0) r1.2))) else (some ((Int32.ofInt 0), (va_up S.1 0 (s1), S.2)))
def fn_Md_tamper_122 (N : Nat) (x1 : Int32) (x2 : Int32) (x3 : Int32) (x4 : Int32) (S : MS) : Option (Int32 × MS) := fn_Md_tamper_155 N (x1) (x2) (x3) (x4) (Int32.ofInt 1) S
def fn_Md_tamper_150 (N : Nat) (x1 : Int32) (x2 : Int32) (x3 : Int32) (x4 : Int32) (S : MS) : Option (Int32 × MS) := fn_Md_tamper_155 N (x1) (x2) (x3) (x4) (Int32.ofInt 2) S
def fn_Md_tamper_154 (N : Nat) (x1 : Int32) (x2 : Int32) (x3 : Int32) (x4 : Int32) (S : MS) : Option (Int32 × MS) := fn_Md_tamper_155 N (x1) (x2) (x3) (x4) (Int32.ofInt 0) S
def fn_Md_tamper_104 (N : Nat) (x1 : Int32) (x2 : Int32) (x3 : Int32) (x4 : Int32) (x5 : Int32) (x7 : Int32) (s0 : Int32) (S : MS) : Option (Int32 × MS) := if (x5) = (0) then (fn_Md_tamper_122 N (x1) (x2) (x3) (x4) S) else (if (x7) = (0) then (fn_Md_tamper_122 N (x1) (x2) (x3) (x4) S) else (if (s0) = (0) then (fn_Md_tamper_122 N (x1) (x2) (x3) (x4) S) else (if (S.1 9) = ((Int8.ofInt (16)).toInt32) then (fn_Md_tamper_150 N (x1) (x2) (x3) (x4) S) else (if (x2) = ((Int8.ofInt (6)).toInt32) then (if md_in (x1) (md_len 6) = true then (if (S.2 6 (x1).toNatClampNeg) = (0) then (fn_Md_tamper_154 N (x1) (x2) (x3) (x4) S) else (fn_Md_tamper_150 N (x1) (x2) (x3) (x4) S)) else none) else (fn_Md_tamper_154 N (x1) (x2) (x3) (x4) S)))))
def fn_Md_tamper_103 (N : Nat) (x1 : Int32) (x2 : Int32) (x3 : Int32) (x4 : Int32) (x5 : Int32) (x7 : Int32) (S : MS) : Option (Int32 × MS) := fn_Md_tamper_104 N (x1) (x2) (x3) (x4) (x5) (x7) (Int32.ofInt 0) S
def fn_Md_tamper_99 (N : Nat) (x1 : Int32) (x2 : Int32) (x3 : Int32) (x4 : Int32) (x5 : Int32) (x7 : Int32) (S : MS) : Option (Int32 × MS) := fn_Md_tamper_104 N (x1) (x2) (x3) (x4) (x5) (x7) (Int32.ofInt 1) S
def fn_Md_tamper_87 (N : Nat) (x1 : Int32) (x2 : Int32) (x3 : Int32) (x4 : Int32) (x5 : Int32) (x6 : Int32) (x7 : Int32) (S : MS) : Option (Int32 × MS) := if (x4) < (0) then (fn_Md_tamper_103 N (x1) (x2) (x3) (x4) (x5) (x7) S) else (if (x6) ≤ (x4) then (fn_Md_tamper_103 N (x1) (x2) (x3) (x4) (x5) (x7) S) else (fn_Md_tamper_99 N (x1) (x2) (x3) (x4) (x5) (x7) S))
def fn_Md_tamper_75 (N : Nat) (x1 : Int32) (x2 : Int32) (x3 : Int32) (x4 : Int32) (x5 : Int32) (x6 : Int32) (s0 : Int32) (S : MS) : Option (Int32 × MS) := if (x2) = (Int32.ofInt 1) then (fn_Md_tamper_87 N (x1) (x2) (x3) (x4) (x5) (x6) (s0) S) else (if (x2) = (Int32.ofInt 2) then (fn_Md_tamper_87 N (x1) (x2) (x3) (x4) (x5) (x6) (s0) S) else (fn_Md_tamper_99 N (x1) (x2) (x3) (x4) (x5) (s0) S))
def fn_Md_tamper_74 (N : Nat) (x1 : Int32) (x2 : Int32) (x3 : Int32) (x4 : Int32) (x5 : Int32) (x6 : Int32) (S : MS) : Option (Int32 × MS) := fn_Md_tamper_75 N (x1) (x2) (x3) (x4) (x5) (x6) (Int32.ofInt 0) S
def fn_Md_tamper_40 (N : Nat) (x1 : Int32) (x2 : Int32) (x3 : Int32) (x4 : Int32) (x5 : Int32) (s0 : Int32) (S : MS) : Option (Int32 × MS) := if (x2) = (0) then (if (s0) ≤ (Int32.ofInt 1) then (fn_Md_tamper_75 N (x1) (x2) (x3) (x4) (x5) (s0) (Int32.ofInt 0) S) else (fn_Md_tamper_75 N (x1) (x2) (x3) (x4) (x5) (s0) (Int32.ofInt 1) S)) else (if (x3) < (0) then (fn_Md_tamper_74 N (x1) (x2) (x3) (x4) (x5) (s0) S) else (if (s0) ≤ (x3) then (fn_Md_tamper_74 N (x1) (x2) (x3) (x4) (x5) (s0) S) else (fn_Md_tamper_75 N (x1) (x2) (x3) (x4) (x5) (s0) (Int32.ofInt 1) S)))
def fn_Md_tamper_23 (N : Nat) (x1 : Int32) (x2 : Int32) (x3 : Int32) (x4 : Int32) (s0 : Int32) (S : MS) : Option (Int32 × MS) := if (s0) = (0) then (fn_Md_tamper_40 N (x1) (x2) (x3) (x4) (s0) (Int32.ofInt 0) S) else (if md_in (x1) (md_len 4) = true then (fn_Md_tamper_40 N (x1) (x2) (x3) (x4) (s0) (S.2 4 (x1).toNatClampNeg) S) else none)
def fn_Md_tamper_22 (N : Nat) (x1 : Int32) (x2 : Int32) (x3 : Int32) (x4 : Int32) (S : MS) : Option (Int32 × MS) := fn_Md_tamper_23 N (x1) (x2) (x3) (x4) (Int32.ofInt 0) S
def fn_Md_tamper_0 (N : Nat) (x1 : Int32) (x2 : Int32) (x3 : Int32) (x4 : Int32) (S : MS) : Option (Int32 × MS) := (fn_Md_isToken N (x1) S).bind fun r1 => if (r1.1) = (0) then (fn_Md_tamper_22 N (x1) (x2) (x3) (x4) r1.2) else (if (x2) < (0) then (fn_Md_tamper_22 N (x1) (x2) (x3) (x4) r1.2) else (if ((Int8.ofInt (6)).toInt32) < (x2) then (fn_Md_tamper_22 N (x1) (x2) (x3) (x4) r1.2) else (fn_Md_tamper_23 N (x1) (x2) (x3) (x4) (Int32.ofInt 1) r1.2)))
def fn_Md_tamper (N : Nat) (p1 : Int32) (p2 : Int32) (p3 : Int32) (p4 : Int32) (S : MS) : Option (Int32 × MS) := fn_Md_tamper_0 N p1 p2 p3 p4 S
theorem w_Md_tamper_364 {l : Launch} {G : ag_G} {d N : Nat} {h : ag_H} {a : Nat} (hb : md_ok h a) (hH : 0 ≤ d) {x9 : Int32} {S : MS} {res : Int32 × MS} (hyp : fn_Md_tamper_364 N x9 S = some res) : ag_ev gc_P l G m_Md_tamper (d + 1) (ag_ret gc_P G (fun v h' => v = some (.int res.1) ∧ h' = md_up h a res.2)) 364 [(0, .ref a), (9, .int (x9))] [] (md_up h a S) := by
  unfold fn_Md_tamper_364 at hyp
  refine ag_iload d_Md_tamper_364 rfl ?_
  cases hyp
  exact ag_iret d_Md_tamper_366 rfl rfl ⟨rfl, rfl⟩
theorem w_Md_tamper_212 {l : Launch} {G : ag_G} {d N : Nat} {h : ag_H} {a : Nat} (hb : md_ok h a) (hH : 0 ≤ d) {k200 : Int32 → Int32 → Int32 → Int32 → Int32 → MS → Option (Int32 × MS)} (hk200 : ∀ (res : Int32 × MS) (y2 : Int32) (y3 : Int32) (y4 : Int32) (y9 : Int32) (y10 : Int32) (T : MS), k200 y2 y3 y4 y9 y10 T = some res → ag_ev gc_P l G m_Md_tamper (d + 1) (ag_ret gc_P G (fun v h' => v = some (.int res.1) ∧ h' = md_up h a res.2)) 200 [(0, .ref a), (2, .int (y2)), (3, .int (y3)), (4, .int (y4)), (9, .int (y9)), (10, .int (y10))] [] (md_up h a T)) {x2 : Int32} {x3 : Int32} {x4 : Int32} {x9 : Int32} {x10 : Int32} {s0 : Int32} {s1 : Int32} {S : MS} {res : Int32 × MS} (hyp : fn_Md_tamper_212 N k200 x2 x3 x4 x9 x10 s0 s1 S = some res) : ag_ev gc_P l G m_Md_tamper (d + 1) (ag_ret gc_P G (fun v h' => v = some (.int res.1) ∧ h' = md_up h a res.2)) 212 [(0, .ref a), (2, .int (x2)), (3, .int (x3)), (4, .int (x4)), (9, .int (x9)), (10, .int (x10))] [.int (s1), .int (s0)] (md_up h a S) := by
  unfold fn_Md_tamper_212 at hyp
  refine ag_icmp_ge d_Md_tamper_212 rfl (fun q => ?_) (fun q => ?_)
  · replace hyp := md_ifp q hyp
    refine ag_goto d_Md_tamper_232 rfl ?_
    exact ag_dr (ag_d1 rfl (ag_d1 rfl ag_d0)) (w_Md_tamper_364 hb hH hyp)
  · replace hyp := md_ifn q hyp
    refine ag_aload_n d_Md_tamper_215 rfl ?_
    refine ag_iload d_Md_tamper_216 rfl ?_
    refine ag_iload_n d_Md_tamper_218 rfl ?_
    refine ag_iload d_Md_tamper_219 rfl ?_
    refine ag_iload d_Md_tamper_221 rfl ?_
    obtain ⟨r1, e1, hyp⟩ := md_bd hyp
    refine ag_callv (as := [.int (x9), .int (x3), .int (x4), .int (x10)]) d_Md_tamper_223 ml_Md_194 gw_1206 rfl sl_Md_change (md_at0 hb _) (Nat.le_of_ble_eq_true rfl) (w_Md_change hb (d := d) (by omega) e1) (fun v1 h1 q1 => ?_)
    obtain ⟨rfl, rfl⟩ := q1
    refine ag_iinc d_Md_tamper_226 rfl (by decide) ?_
    refine ag_goto d_Md_tamper_229 rfl ?_
    exact ag_dr (ag_d1 rfl (ag_d1 rfl (ag_d1 rfl (ag_d1 rfl (ag_d1 rfl (ag_d1 rfl ag_d0)))))) (hk200 _ _ _ _ _ _ _ hyp)
theorem w_Md_tamper_200 {l : Launch} {G : ag_G} {d N : Nat} {h : ag_H} {a : Nat} (hb : md_ok h a) (hH : 0 ≤ d) : ∀ (n : Nat) (res : Int32 × MS) (x2 : Int32) (x3 : Int32) (x4 : Int32) (x9 : Int32) (x10 : Int32) (S : MS) , fn_Md_tamper_200 N n x2 x3 x4 x9 x10 S = some res → ag_ev gc_P l G m_Md_tamper (d + 1) (ag_ret gc_P G (fun v h' => v = some (.int res.1) ∧ h' = md_up h a res.2)) 200 [(0, .ref a), (2, .int (x2)), (3, .int (x3)), (4, .int (x4)), (9, .int (x9)), (10, .int (x10))] [] (md_up h a S) := by
  intro n
  induction n with
  | zero =>
    intro res x2 x3 x4 x9 x10 S hyp
    cases hyp
  | succ n ih =>
    intro res x2 x3 x4 x9 x10 S hyp
    rw [fe_Md_tamper_200] at hyp
    refine ag_iload d_Md_tamper_200 rfl ?_
    refine ag_iload_n d_Md_tamper_202 rfl ?_
    refine ag_iconst d_Md_tamper_203 ?_
    refine ag_icmp_ne d_Md_tamper_204 rfl (fun q => ?_) (fun q => ?_)
    · replace hyp := md_ifn q hyp
      refine ag_iconst d_Md_tamper_211 ?_
      exact ag_dr (ag_d1 rfl (ag_d1 rfl (ag_d1 rfl (ag_d1 rfl (ag_d1 rfl (ag_d1 rfl ag_d0)))))) (w_Md_tamper_212 hb hH ih hyp)
    · replace hyp := md_ifp q hyp
      refine ag_iconst d_Md_tamper_207 ?_
      refine ag_goto d_Md_tamper_208 rfl ?_
      exact ag_dr (ag_d1 rfl (ag_d1 rfl (ag_d1 rfl (ag_d1 rfl (ag_d1 rfl (ag_d1 rfl ag_d0)))))) (w_Md_tamper_212 hb hH ih hyp)
theorem w_Md_tamper_155 {l : Launch} {G : ag_G} {d N : Nat} {h : ag_H} {a : Nat} (hb : md_ok h a) (hH : 0 ≤ d) {x1 : Int32} {x2 : Int32} {x3 : Int32} {x4 : Int32} {s1 : Int32} {S : MS} {res : Int32 × MS} (hyp : fn_Md_tamper_155 N x1 x2 x3 x4 s1 S = some res) : ag_ev gc_P l G m_Md_tamper (d + 1) (ag_ret gc_P G (fun v h' => v = some (.int res.1) ∧ h' = md_up h a res.2)) 155 [(0, .ref a), (1, .int (x1)), (2, .int (x2)), (3, .int (x3)), (4, .int (x4))] [.int (s1), .ref a] (md_up h a S) := by
  unfold fn_Md_tamper_155 at hyp
  refine md_puti hb d_Md_tamper_155 fl_Md_84 rfl (by decide) rfl rfl ?_
  refine ag_aload_n d_Md_tamper_158 rfl ?_
  refine md_get hb d_Md_tamper_159 fr_Md_84 rfl ?_
  refine ag_if_le d_Md_tamper_162 rfl (fun q => ?_) (fun q => ?_)
  · replace hyp := md_ifp q hyp
    refine ag_aload_n d_Md_tamper_167 rfl ?_
    refine ag_iload_n d_Md_tamper_168 rfl ?_
    obtain ⟨r1, e1, hyp⟩ := md_bd hyp
    refine ag_callv (as := [.int (x1)]) d_Md_tamper_169 ml_Md_191 gw_1194 rfl sl_Md_like (md_at0 hb _) (Nat.le_of_ble_eq_true rfl) (w_Md_like hb (d := d) (by omega) e1) (fun v1 h1 q1 => ?_)
    obtain ⟨rfl, rfl⟩ := q1
    refine ag_istore d_Md_tamper_172 (by decide) ?_
    refine ag_iload_n d_Md_tamper_174 rfl ?_
    refine ag_if_ne d_Md_tamper_175 rfl (fun q => ?_) (fun q => ?_)
    · replace hyp := md_ifn q hyp
      refine ag_iload_n d_Md_tamper_192 rfl ?_
      refine ag_iconst d_Md_tamper_193 ?_
      refine ag_icmp_ge d_Md_tamper_194 rfl (fun q => ?_) (fun q => ?_)
      · replace hyp := md_ifp q hyp
        refine ag_iload_n d_Md_tamper_235 rfl ?_
        refine ag_iconst d_Md_tamper_236 ?_
        refine ag_icmp_ne d_Md_tamper_237 rfl (fun q => ?_) (fun q => ?_)
        · replace hyp := md_ifn q hyp
          refine ag_iload_n d_Md_tamper_261 rfl ?_
          refine ag_bipush d_Md_tamper_262 ?_
          refine ag_icmp_ne d_Md_tamper_264 rfl (fun q => ?_) (fun q => ?_)
          · replace hyp := md_ifn q hyp
            refine ag_aload_n d_Md_tamper_300 rfl ?_
            refine ag_dup d_Md_tamper_301 rfl ?_
            refine md_get hb d_Md_tamper_302 fr_Md_19 rfl ?_
            refine ag_iconst d_Md_tamper_305 ?_
            refine ag_iadd d_Md_tamper_306 ?_
            refine md_puti hb d_Md_tamper_307 fl_Md_19 rfl (by decide) rfl rfl ?_
            refine ag_aload_n d_Md_tamper_310 rfl ?_
            refine md_get hb d_Md_tamper_311 fr_Md_32 rfl ?_
            refine ag_bipush d_Md_tamper_314 ?_
            refine ag_iload d_Md_tamper_316 rfl ?_
            refine ag_imul d_Md_tamper_318 ?_
            refine ag_iconst d_Md_tamper_319 ?_
            refine ag_iload_n d_Md_tamper_320 rfl ?_
            refine ag_imul d_Md_tamper_321 ?_
            refine ag_iadd d_Md_tamper_322 ?_
            refine ag_iconst d_Md_tamper_323 ?_
            refine ag_iadd d_Md_tamper_324 ?_
            refine ag_aload_n d_Md_tamper_325 rfl ?_
            refine md_get hb d_Md_tamper_326 fr_Md_19 rfl ?_
            obtain ⟨qi, hyp⟩ := md_ifs hyp
            refine md_ast hb d_Md_tamper_329 (by decide) (by decide) rfl qi ?_
            refine ag_iload_n d_Md_tamper_330 rfl ?_
            refine ag_iconst d_Md_tamper_331 ?_
            refine ag_icmp_ne d_Md_tamper_332 rfl (fun q => ?_) (fun q => ?_)
            · replace hyp := md_ifn q hyp
              exact ag_dr (ag_d1 rfl (ag_d1 rfl ag_d0)) (w_Md_tamper_364 hb hH hyp)
            · replace hyp := md_ifp q hyp
              refine ag_aload_n d_Md_tamper_335 rfl ?_
              refine md_get hb d_Md_tamper_336 fr_Md_29 rfl ?_
              refine ag_iload d_Md_tamper_339 rfl ?_
              refine ag_iload_n d_Md_tamper_341 rfl ?_
              refine ag_iconst d_Md_tamper_342 ?_
              refine ag_iadd d_Md_tamper_343 ?_
              obtain ⟨qi, hyp⟩ := md_ifs hyp
              refine md_ast hb d_Md_tamper_344 (by decide) (by decide) rfl qi ?_
              refine ag_aload_n d_Md_tamper_345 rfl ?_
              refine md_get hb d_Md_tamper_346 fr_Md_35 rfl ?_
              refine ag_iload d_Md_tamper_349 rfl ?_
              refine ag_iconst d_Md_tamper_351 ?_
              obtain ⟨qi, hyp⟩ := md_ifs hyp
              refine md_zast hb d_Md_tamper_352 (by decide) (by decide) rfl qi ?_
              refine ag_aload_n d_Md_tamper_353 rfl ?_
              refine md_get hb d_Md_tamper_354 fr_Md_39 rfl ?_
              refine ag_iload d_Md_tamper_357 rfl ?_
              refine ag_aload_n d_Md_tamper_359 rfl ?_
              refine md_get hb d_Md_tamper_360 fr_Md_19 rfl ?_
              obtain ⟨qi, hyp⟩ := md_ifs hyp
              refine md_ast hb d_Md_tamper_363 (by decide) (by decide) rfl qi ?_
              exact ag_dr (ag_d1 rfl (ag_d1 rfl ag_d0)) (w_Md_tamper_364 hb hH hyp)
          · replace hyp := md_ifp q hyp
            refine ag_aload_n d_Md_tamper_267 rfl ?_
            refine ag_iload d_Md_tamper_268 rfl ?_
            refine ag_iload_n d_Md_tamper_270 rfl ?_
            refine ag_aload_n d_Md_tamper_271 rfl ?_
            refine ag_iload d_Md_tamper_272 rfl ?_
            refine ag_iload_n d_Md_tamper_274 rfl ?_
            refine ag_iconst d_Md_tamper_275 ?_
            obtain ⟨r2, e2, hyp⟩ := md_bd hyp
            refine ag_callv (as := [.int (r1.1), .int (x3), .int (Int32.ofInt 0)]) d_Md_tamper_276 ml_Md_198 gw_1210 rfl sl_Md_link (md_at0 hb _) (Nat.le_of_ble_eq_true rfl) (w_Md_link hb (d := d) (by omega) e2) (fun v2 h2 q2 => ?_)
            obtain ⟨rfl, rfl⟩ := q2
            refine ag_aload_n d_Md_tamper_279 rfl ?_
            refine ag_iload d_Md_tamper_280 rfl ?_
            refine ag_iload_n d_Md_tamper_282 rfl ?_
            refine ag_iconst d_Md_tamper_283 ?_
            obtain ⟨r3, e3, hyp⟩ := md_bd hyp
            refine ag_callv (as := [.int (r1.1), .int (x3), .int (Int32.ofInt 1)]) d_Md_tamper_284 ml_Md_198 gw_1210 rfl sl_Md_link (md_at0 hb _) (Nat.le_of_ble_eq_true rfl) (w_Md_link hb (d := d) (by omega) e3) (fun v3 h3 q3 => ?_)
            obtain ⟨rfl, rfl⟩ := q3
            refine ag_aload_n d_Md_tamper_287 rfl ?_
            refine md_get hb d_Md_tamper_288 fr_Md_39 rfl ?_
            refine ag_iload d_Md_tamper_291 rfl ?_
            obtain ⟨qi, hyp⟩ := md_ifs hyp
            refine md_ald hb d_Md_tamper_293 (by decide) (by decide) rfl qi ?_
            obtain ⟨r4, e4, hyp⟩ := md_bd hyp
            refine ag_callv (as := [.int (r1.1), .int (x3), .int (r2.1), .int (r3.1), .int (r3.2.2 7 (r1.1).toNatClampNeg)]) d_Md_tamper_294 ml_Md_184 gw_1182 rfl sl_Md_setLink (md_at0 hb _) (Nat.le_of_ble_eq_true rfl) (w_Md_setLink hb (d := d) (by omega) e4) (fun v4 h4 q4 => ?_)
            obtain ⟨rfl, rfl⟩ := q4
            refine ag_goto d_Md_tamper_297 rfl ?_
            exact ag_dr (ag_d1 rfl (ag_d1 rfl ag_d0)) (w_Md_tamper_364 hb hH hyp)
        · replace hyp := md_ifp q hyp
          refine ag_aload_n d_Md_tamper_240 rfl ?_
          refine md_get hb d_Md_tamper_241 fr_Md_32 rfl ?_
          refine ag_bipush d_Md_tamper_244 ?_
          refine ag_iload d_Md_tamper_246 rfl ?_
          refine ag_imul d_Md_tamper_248 ?_
          refine ag_iconst d_Md_tamper_249 ?_
          refine ag_iload_n d_Md_tamper_250 rfl ?_
          refine ag_imul d_Md_tamper_251 ?_
          refine ag_iadd d_Md_tamper_252 ?_
          refine ag_aload_n d_Md_tamper_253 rfl ?_
          refine md_get hb d_Md_tamper_254 fr_Md_175 rfl ?_
          obtain ⟨qi, hyp⟩ := md_ifs hyp
          refine md_ast hb d_Md_tamper_257 (by decide) (by decide) rfl qi ?_
          refine ag_goto d_Md_tamper_258 rfl ?_
          exact ag_dr (ag_d1 rfl (ag_d1 rfl ag_d0)) (w_Md_tamper_364 hb hH hyp)
      · replace hyp := md_ifn q hyp
        refine ag_iconst d_Md_tamper_197 ?_
        refine ag_istore d_Md_tamper_198 (by decide) ?_
        exact ag_dr (ag_d1 rfl (ag_d1 rfl (ag_d1 rfl (ag_d1 rfl (ag_d1 rfl (ag_d1 rfl ag_d0)))))) (w_Md_tamper_200 hb hH N _ _ _ _ _ _ _ hyp)
    · replace hyp := md_ifp q hyp
      refine ag_aload_n d_Md_tamper_178 rfl ?_
      refine md_get hb d_Md_tamper_179 fr_Md_29 rfl ?_
      refine ag_iload d_Md_tamper_182 rfl ?_
      refine ag_dup2 d_Md_tamper_184 rfl rfl ?_
      obtain ⟨qi, hyp⟩ := md_ifs hyp
      refine md_ald hb d_Md_tamper_185 (by decide) (by decide) rfl qi ?_
      refine ag_iconst d_Md_tamper_186 ?_
      refine ag_isub d_Md_tamper_187 ?_
      obtain ⟨qi, hyp⟩ := md_ifs hyp
      refine md_ast hb d_Md_tamper_188 (by decide) (by decide) rfl qi ?_
      refine ag_goto d_Md_tamper_189 rfl ?_
      exact ag_dr (ag_d1 rfl (ag_d1 rfl ag_d0)) (w_Md_tamper_364 hb hH hyp)
  · replace hyp := md_ifn q hyp
    refine ag_iconst d_Md_tamper_165 ?_
    cases hyp
    exact ag_iret d_Md_tamper_166 rfl rfl ⟨rfl, rfl⟩
theorem w_Md_tamper_122 {l : Launch} {G : ag_G} {d N : Nat} {h : ag_H} {a : Nat} (hb : md_ok h a) (hH : 0 ≤ d) {x1 : Int32} {x2 : Int32} {x3 : Int32} {x4 : Int32} {S : MS} {res : Int32 × MS} (hyp : fn_Md_tamper_122 N x1 x2 x3 x4 S = some res) : ag_ev gc_P l G m_Md_tamper (d + 1) (ag_ret gc_P G (fun v h' => v = some (.int res.1) ∧ h' = md_up h a res.2)) 122 [(0, .ref a), (1, .int (x1)), (2, .int (x2)), (3, .int (x3)), (4, .int (x4))] [.ref a] (md_up h a S) := by
  unfold fn_Md_tamper_122 at hyp
  refine ag_iconst d_Md_tamper_122 ?_
  refine ag_goto d_Md_tamper_123 rfl ?_
  exact ag_dr (ag_d1 rfl (ag_d1 rfl (ag_d1 rfl (ag_d1 rfl (ag_d1 rfl ag_d0))))) (w_Md_tamper_155 hb hH hyp)
theorem w_Md_tamper_150 {l : Launch} {G : ag_G} {d N : Nat} {h : ag_H} {a : Nat} (hb : md_ok h a) (hH : 0 ≤ d) {x1 : Int32} {x2 : Int32} {x3 : Int32} {x4 : Int32} {S : MS} {res : Int32 × MS} (hyp : fn_Md_tamper_150 N x1 x2 x3 x4 S = some res) : ag_ev gc_P l G m_Md_tamper (d + 1) (ag_ret gc_P G (fun v h' => v = some (.int res.1) ∧ h' = md_up h a res.2)) 150 [(0, .ref a), (1, .int (x1)), (2, .int (x2)), (3, .int (x3)), (4, .int (x4))] [.ref a] (md_up h a S) := by
  unfold fn_Md_tamper_150 at hyp
  refine ag_iconst d_Md_tamper_150 ?_
  refine ag_goto d_Md_tamper_151 rfl ?_
  exact ag_dr (ag_d1 rfl (ag_d1 rfl (ag_d1 rfl (ag_d1 rfl (ag_d1 rfl ag_d0))))) (w_Md_tamper_155 hb hH hyp)
theorem w_Md_tamper_154 {l : Launch} {G : ag_G} {d N : Nat} {h : ag_H} {a : Nat} (hb : md_ok h a) (hH : 0 ≤ d) {x1 : Int32} {x2 : Int32} {x3 : Int32} {x4 : Int32} {S : MS} {res : Int32 × MS} (hyp : fn_Md_tamper_154 N x1 x2 x3 x4 S = some res) : ag_ev gc_P l G m_Md_tamper (d + 1) (ag_ret gc_P G (fun v h' => v = some (.int res.1) ∧ h' = md_up h a res.2)) 154 [(0, .ref a), (1, .int (x1)), (2, .int (x2)), (3, .int (x3)), (4, .int (x4))] [.ref a] (md_up h a S) := by
  unfold fn_Md_tamper_154 at hyp
  refine ag_iconst d_Md_tamper_154 ?_
  exact ag_dr (ag_d1 rfl (ag_d1 rfl (ag_d1 rfl (ag_d1 rfl (ag_d1 rfl ag_d0))))) (w_Md_tamper_155 hb hH hyp)
theorem w_Md_tamper_104 {l : Launch} {G : ag_G} {d N : Nat} {h : ag_H} {a : Nat} (hb : md_ok h a) (hH : 0 ≤ d) {x1 : Int32} {x2 : Int32} {x3 : Int32} {x4 : Int32} {x5 : Int32} {x7 : Int32} {s0 : Int32} {S : MS} {res : Int32 × MS} (hyp : fn_Md_tamper_104 N x1 x2 x3 x4 x5 x7 s0 S = some res) : ag_ev gc_P l G m_Md_tamper (d + 1) (ag_ret gc_P G (fun v h' => v = some (.int res.1) ∧ h' = md_up h a res.2)) 104 [(0, .ref a), (1, .int (x1)), (2, .int (x2)), (3, .int (x3)), (4, .int (x4)), (5, .int (x5)), (7, .int (x7))] [.int (s0)] (md_up h a S) := by
  unfold fn_Md_tamper_104 at hyp
  refine ag_istore d_Md_tamper_104 (by decide) ?_
  refine ag_aload_n d_Md_tamper_106 rfl ?_
  refine ag_iload d_Md_tamper_107 rfl ?_
  refine ag_if_eq d_Md_tamper_109 rfl (fun q => ?_) (fun q => ?_)
  · replace hyp := md_ifp q hyp
    exact ag_dr (ag_d1 rfl (ag_d1 rfl (ag_d1 rfl (ag_d1 rfl (ag_d1 rfl ag_d0))))) (w_Md_tamper_122 hb hH hyp)
  · replace hyp := md_ifn q hyp
    refine ag_iload d_Md_tamper_112 rfl ?_
    refine ag_if_eq d_Md_tamper_114 rfl (fun q => ?_) (fun q => ?_)
    · replace hyp := md_ifp q hyp
      exact ag_dr (ag_d1 rfl (ag_d1 rfl (ag_d1 rfl (ag_d1 rfl (ag_d1 rfl ag_d0))))) (w_Md_tamper_122 hb hH hyp)
    · replace hyp := md_ifn q hyp
      refine ag_iload d_Md_tamper_117 rfl ?_
      refine ag_if_ne d_Md_tamper_119 rfl (fun q => ?_) (fun q => ?_)
      · replace hyp := md_ifn q hyp
        refine ag_aload_n d_Md_tamper_126 rfl ?_
        refine md_get hb d_Md_tamper_127 fr_Md_178 rfl ?_
        refine ag_bipush d_Md_tamper_130 ?_
        refine ag_icmp_eq d_Md_tamper_132 rfl (fun q => ?_) (fun q => ?_)
        · replace hyp := md_ifp q hyp
          exact ag_dr (ag_d1 rfl (ag_d1 rfl (ag_d1 rfl (ag_d1 rfl (ag_d1 rfl ag_d0))))) (w_Md_tamper_150 hb hH hyp)
        · replace hyp := md_ifn q hyp
          refine ag_iload_n d_Md_tamper_135 rfl ?_
          refine ag_bipush d_Md_tamper_136 ?_
          refine ag_icmp_ne d_Md_tamper_138 rfl (fun q => ?_) (fun q => ?_)
          · replace hyp := md_ifn q hyp
            exact ag_dr (ag_d1 rfl (ag_d1 rfl (ag_d1 rfl (ag_d1 rfl (ag_d1 rfl ag_d0))))) (w_Md_tamper_154 hb hH hyp)
          · replace hyp := md_ifp q hyp
            refine ag_aload_n d_Md_tamper_141 rfl ?_
            refine md_get hb d_Md_tamper_142 fr_Md_35 rfl ?_
            refine ag_iload_n d_Md_tamper_145 rfl ?_
            obtain ⟨qi, hyp⟩ := md_ifs hyp
            refine md_zald hb d_Md_tamper_146 (by decide) (by decide) rfl qi ?_
            refine ag_if_eq d_Md_tamper_147 rfl (fun q => ?_) (fun q => ?_)
            · replace hyp := md_ifp q hyp
              exact ag_dr (ag_d1 rfl (ag_d1 rfl (ag_d1 rfl (ag_d1 rfl (ag_d1 rfl ag_d0))))) (w_Md_tamper_154 hb hH hyp)
            · replace hyp := md_ifn q hyp
              exact ag_dr (ag_d1 rfl (ag_d1 rfl (ag_d1 rfl (ag_d1 rfl (ag_d1 rfl ag_d0))))) (w_Md_tamper_150 hb hH hyp)
      · replace hyp := md_ifp q hyp
        exact ag_dr (ag_d1 rfl (ag_d1 rfl (ag_d1 rfl (ag_d1 rfl (ag_d1 rfl ag_d0))))) (w_Md_tamper_122 hb hH hyp)
theorem w_Md_tamper_103 {l : Launch} {G : ag_G} {d N : Nat} {h : ag_H} {a : Nat} (hb : md_ok h a) (hH : 0 ≤ d) {x1 : Int32} {x2 : Int32} {x3 : Int32} {x4 : Int32} {x5 : Int32} {x7 : Int32} {S : MS} {res : Int32 × MS} (hyp : fn_Md_tamper_103 N x1 x2 x3 x4 x5 x7 S = some res) : ag_ev gc_P l G m_Md_tamper (d + 1) (ag_ret gc_P G (fun v h' => v = some (.int res.1) ∧ h' = md_up h a res.2)) 103 [(0, .ref a), (1, .int (x1)), (2, .int (x2)), (3, .int (x3)), (4, .int (x4)), (5, .int (x5)), (7, .int (x7))] [] (md_up h a S) := by
  unfold fn_Md_tamper_103 at hyp
  refine ag_iconst d_Md_tamper_103 ?_
  exact ag_dr (ag_d1 rfl (ag_d1 rfl (ag_d1 rfl (ag_d1 rfl (ag_d1 rfl (ag_d1 rfl (ag_d1 rfl ag_d0))))))) (w_Md_tamper_104 hb hH hyp)
theorem w_Md_tamper_99 {l : Launch} {G : ag_G} {d N : Nat} {h : ag_H} {a : Nat} (hb : md_ok h a) (hH : 0 ≤ d) {x1 : Int32} {x2 : Int32} {x3 : Int32} {x4 : Int32} {x5 : Int32} {x7 : Int32} {S : MS} {res : Int32 × MS} (hyp : fn_Md_tamper_99 N x1 x2 x3 x4 x5 x7 S = some res) : ag_ev gc_P l G m_Md_tamper (d + 1) (ag_ret gc_P G (fun v h' => v = some (.int res.1) ∧ h' = md_up h a res.2)) 99 [(0, .ref a), (1, .int (x1)), (2, .int (x2)), (3, .int (x3)), (4, .int (x4)), (5, .int (x5)), (7, .int (x7))] [] (md_up h a S) := by
  unfold fn_Md_tamper_99 at hyp
  refine ag_iconst d_Md_tamper_99 ?_
  refine ag_goto d_Md_tamper_100 rfl ?_
  exact ag_dr (ag_d1 rfl (ag_d1 rfl (ag_d1 rfl (ag_d1 rfl (ag_d1 rfl (ag_d1 rfl (ag_d1 rfl ag_d0))))))) (w_Md_tamper_104 hb hH hyp)
theorem w_Md_tamper_87 {l : Launch} {G : ag_G} {d N : Nat} {h : ag_H} {a : Nat} (hb : md_ok h a) (hH : 0 ≤ d) {x1 : Int32} {x2 : Int32} {x3 : Int32} {x4 : Int32} {x5 : Int32} {x6 : Int32} {x7 : Int32} {S : MS} {res : Int32 × MS} (hyp : fn_Md_tamper_87 N x1 x2 x3 x4 x5 x6 x7 S = some res) : ag_ev gc_P l G m_Md_tamper (d + 1) (ag_ret gc_P G (fun v h' => v = some (.int res.1) ∧ h' = md_up h a res.2)) 87 [(0, .ref a), (1, .int (x1)), (2, .int (x2)), (3, .int (x3)), (4, .int (x4)), (5, .int (x5)), (6, .int (x6)), (7, .int (x7))] [] (md_up h a S) := by
  unfold fn_Md_tamper_87 at hyp
  refine ag_iload d_Md_tamper_87 rfl ?_
  refine ag_if_lt d_Md_tamper_89 rfl (fun q => ?_) (fun q => ?_)
  · replace hyp := md_ifp q hyp
    exact ag_dr (ag_d1 rfl (ag_d1 rfl (ag_d1 rfl (ag_d1 rfl (ag_d1 rfl (ag_d1 rfl (ag_d1 rfl ag_d0))))))) (w_Md_tamper_103 hb hH hyp)
  · replace hyp := md_ifn q hyp
    refine ag_iload d_Md_tamper_92 rfl ?_
    refine ag_iload d_Md_tamper_94 rfl ?_
    refine ag_icmp_ge d_Md_tamper_96 rfl (fun q => ?_) (fun q => ?_)
    · replace hyp := md_ifp q hyp
      exact ag_dr (ag_d1 rfl (ag_d1 rfl (ag_d1 rfl (ag_d1 rfl (ag_d1 rfl (ag_d1 rfl (ag_d1 rfl ag_d0))))))) (w_Md_tamper_103 hb hH hyp)
    · replace hyp := md_ifn q hyp
      exact ag_dr (ag_d1 rfl (ag_d1 rfl (ag_d1 rfl (ag_d1 rfl (ag_d1 rfl (ag_d1 rfl (ag_d1 rfl ag_d0))))))) (w_Md_tamper_99 hb hH hyp)
theorem w_Md_tamper_75 {l : Launch} {G : ag_G} {d N : Nat} {h : ag_H} {a : Nat} (hb : md_ok h a) (hH : 0 ≤ d) {x1 : Int32} {x2 : Int32} {x3 : Int32} {x4 : Int32} {x5 : Int32} {x6 : Int32} {s0 : Int32} {S : MS} {res : Int32 × MS} (hyp : fn_Md_tamper_75 N x1 x2 x3 x4 x5 x6 s0 S = some res) : ag_ev gc_P l G m_Md_tamper (d + 1) (ag_ret gc_P G (fun v h' => v = some (.int res.1) ∧ h' = md_up h a res.2)) 75 [(0, .ref a), (1, .int (x1)), (2, .int (x2)), (3, .int (x3)), (4, .int (x4)), (5, .int (x5)), (6, .int (x6))] [.int (s0)] (md_up h a S) := by
  unfold fn_Md_tamper_75 at hyp
  refine ag_istore d_Md_tamper_75 (by decide) ?_
  refine ag_iload_n d_Md_tamper_77 rfl ?_
  refine ag_iconst d_Md_tamper_78 ?_
  refine ag_icmp_eq d_Md_tamper_79 rfl (fun q => ?_) (fun q => ?_)
  · replace hyp := md_ifp q hyp
    exact ag_dr (ag_d1 rfl (ag_d1 rfl (ag_d1 rfl (ag_d1 rfl (ag_d1 rfl (ag_d1 rfl (ag_d1 rfl (ag_d1 rfl ag_d0)))))))) (w_Md_tamper_87 hb hH hyp)
  · replace hyp := md_ifn q hyp
    refine ag_iload_n d_Md_tamper_82 rfl ?_
    refine ag_iconst d_Md_tamper_83 ?_
    refine ag_icmp_ne d_Md_tamper_84 rfl (fun q => ?_) (fun q => ?_)
    · replace hyp := md_ifn q hyp
      exact ag_dr (ag_d1 rfl (ag_d1 rfl (ag_d1 rfl (ag_d1 rfl (ag_d1 rfl (ag_d1 rfl (ag_d1 rfl ag_d0))))))) (w_Md_tamper_99 hb hH hyp)
    · replace hyp := md_ifp q hyp
      exact ag_dr (ag_d1 rfl (ag_d1 rfl (ag_d1 rfl (ag_d1 rfl (ag_d1 rfl (ag_d1 rfl (ag_d1 rfl (ag_d1 rfl ag_d0)))))))) (w_Md_tamper_87 hb hH hyp)
theorem w_Md_tamper_74 {l : Launch} {G : ag_G} {d N : Nat} {h : ag_H} {a : Nat} (hb : md_ok h a) (hH : 0 ≤ d) {x1 : Int32} {x2 : Int32} {x3 : Int32} {x4 : Int32} {x5 : Int32} {x6 : Int32} {S : MS} {res : Int32 × MS} (hyp : fn_Md_tamper_74 N x1 x2 x3 x4 x5 x6 S = some res) : ag_ev gc_P l G m_Md_tamper (d + 1) (ag_ret gc_P G (fun v h' => v = some (.int res.1) ∧ h' = md_up h a res.2)) 74 [(0, .ref a), (1, .int (x1)), (2, .int (x2)), (3, .int (x3)), (4, .int (x4)), (5, .int (x5)), (6, .int (x6))] [] (md_up h a S) := by
  unfold fn_Md_tamper_74 at hyp
  refine ag_iconst d_Md_tamper_74 ?_
  exact ag_dr (ag_d1 rfl (ag_d1 rfl (ag_d1 rfl (ag_d1 rfl (ag_d1 rfl (ag_d1 rfl (ag_d1 rfl ag_d0))))))) (w_Md_tamper_75 hb hH hyp)
theorem w_Md_tamper_40 {l : Launch} {G : ag_G} {d N : Nat} {h : ag_H} {a : Nat} (hb : md_ok h a) (hH : 0 ≤ d) {x1 : Int32} {x2 : Int32} {x3 : Int32} {x4 : Int32} {x5 : Int32} {s0 : Int32} {S : MS} {res : Int32 × MS} (hyp : fn_Md_tamper_40 N x1 x2 x3 x4 x5 s0 S = some res) : ag_ev gc_P l G m_Md_tamper (d + 1) (ag_ret gc_P G (fun v h' => v = some (.int res.1) ∧ h' = md_up h a res.2)) 40 [(0, .ref a), (1, .int (x1)), (2, .int (x2)), (3, .int (x3)), (4, .int (x4)), (5, .int (x5))] [.int (s0)] (md_up h a S) := by
  unfold fn_Md_tamper_40 at hyp
  refine ag_istore d_Md_tamper_40 (by decide) ?_
  refine ag_iload_n d_Md_tamper_42 rfl ?_
  refine ag_if_ne d_Md_tamper_43 rfl (fun q => ?_) (fun q => ?_)
  · replace hyp := md_ifn q hyp
    refine ag_iload_n d_Md_tamper_60 rfl ?_
    refine ag_if_lt d_Md_tamper_61 rfl (fun q => ?_) (fun q => ?_)
    · replace hyp := md_ifp q hyp
      exact ag_dr (ag_d1 rfl (ag_d1 rfl (ag_d1 rfl (ag_d1 rfl (ag_d1 rfl (ag_d1 rfl (ag_d1 rfl ag_d0))))))) (w_Md_tamper_74 hb hH hyp)
    · replace hyp := md_ifn q hyp
      refine ag_iload_n d_Md_tamper_64 rfl ?_
      refine ag_iload d_Md_tamper_65 rfl ?_
      refine ag_icmp_ge d_Md_tamper_67 rfl (fun q => ?_) (fun q => ?_)
      · replace hyp := md_ifp q hyp
        exact ag_dr (ag_d1 rfl (ag_d1 rfl (ag_d1 rfl (ag_d1 rfl (ag_d1 rfl (ag_d1 rfl (ag_d1 rfl ag_d0))))))) (w_Md_tamper_74 hb hH hyp)
      · replace hyp := md_ifn q hyp
        refine ag_iconst d_Md_tamper_70 ?_
        refine ag_goto d_Md_tamper_71 rfl ?_
        exact ag_dr (ag_d1 rfl (ag_d1 rfl (ag_d1 rfl (ag_d1 rfl (ag_d1 rfl (ag_d1 rfl (ag_d1 rfl ag_d0))))))) (w_Md_tamper_75 hb hH hyp)
  · replace hyp := md_ifp q hyp
    refine ag_iload d_Md_tamper_46 rfl ?_
    refine ag_iconst d_Md_tamper_48 ?_
    refine ag_icmp_le d_Md_tamper_49 rfl (fun q => ?_) (fun q => ?_)
    · replace hyp := md_ifp q hyp
      refine ag_iconst d_Md_tamper_56 ?_
      refine ag_goto d_Md_tamper_57 rfl ?_
      exact ag_dr (ag_d1 rfl (ag_d1 rfl (ag_d1 rfl (ag_d1 rfl (ag_d1 rfl (ag_d1 rfl (ag_d1 rfl ag_d0))))))) (w_Md_tamper_75 hb hH hyp)
    · replace hyp := md_ifn q hyp
      refine ag_iconst d_Md_tamper_52 ?_
      refine ag_goto d_Md_tamper_53 rfl ?_
      exact ag_dr (ag_d1 rfl (ag_d1 rfl (ag_d1 rfl (ag_d1 rfl (ag_d1 rfl (ag_d1 rfl (ag_d1 rfl ag_d0))))))) (w_Md_tamper_75 hb hH hyp)
theorem w_Md_tamper_23 {l : Launch} {G : ag_G} {d N : Nat} {h : ag_H} {a : Nat} (hb : md_ok h a) (hH : 0 ≤ d) {x1 : Int32} {x2 : Int32} {x3 : Int32} {x4 : Int32} {s0 : Int32} {S : MS} {res : Int32 × MS} (hyp : fn_Md_tamper_23 N x1 x2 x3 x4 s0 S = some res) : ag_ev gc_P l G m_Md_tamper (d + 1) (ag_ret gc_P G (fun v h' => v = some (.int res.1) ∧ h' = md_up h a res.2)) 23 [(0, .ref a), (1, .int (x1)), (2, .int (x2)), (3, .int (x3)), (4, .int (x4))] [.int (s0)] (md_up h a S) := by
  unfold fn_Md_tamper_23 at hyp
  refine ag_istore d_Md_tamper_23 (by decide) ?_
  refine ag_iload d_Md_tamper_25 rfl ?_
  refine ag_if_eq d_Md_tamper_27 rfl (fun q => ?_) (fun q => ?_)
  · replace hyp := md_ifp q hyp
    refine ag_iconst d_Md_tamper_39 ?_
    exact ag_dr (ag_d1 rfl (ag_d1 rfl (ag_d1 rfl (ag_d1 rfl (ag_d1 rfl (ag_d1 rfl ag_d0)))))) (w_Md_tamper_40 hb hH hyp)
  · replace hyp := md_ifn q hyp
    refine ag_aload_n d_Md_tamper_30 rfl ?_
    refine md_get hb d_Md_tamper_31 fr_Md_29 rfl ?_
    refine ag_iload_n d_Md_tamper_34 rfl ?_
    obtain ⟨qi, hyp⟩ := md_ifs hyp
    refine md_ald hb d_Md_tamper_35 (by decide) (by decide) rfl qi ?_
    refine ag_goto d_Md_tamper_36 rfl ?_
    exact ag_dr (ag_d1 rfl (ag_d1 rfl (ag_d1 rfl (ag_d1 rfl (ag_d1 rfl (ag_d1 rfl ag_d0)))))) (w_Md_tamper_40 hb hH hyp)
theorem w_Md_tamper_22 {l : Launch} {G : ag_G} {d N : Nat} {h : ag_H} {a : Nat} (hb : md_ok h a) (hH : 0 ≤ d) {x1 : Int32} {x2 : Int32} {x3 : Int32} {x4 : Int32} {S : MS} {res : Int32 × MS} (hyp : fn_Md_tamper_22 N x1 x2 x3 x4 S = some res) : ag_ev gc_P l G m_Md_tamper (d + 1) (ag_ret gc_P G (fun v h' => v = some (.int res.1) ∧ h' = md_up h a res.2)) 22 [(0, .ref a), (1, .int (x1)), (2, .int (x2)), (3, .int (x3)), (4, .int (x4))] [] (md_up h a S) := by
  unfold fn_Md_tamper_22 at hyp
  refine ag_iconst d_Md_tamper_22 ?_
  exact ag_dr (ag_d1 rfl (ag_d1 rfl (ag_d1 rfl (ag_d1 rfl (ag_d1 rfl ag_d0))))) (w_Md_tamper_23 hb hH hyp)
theorem w_Md_tamper_0 {l : Launch} {G : ag_G} {d N : Nat} {h : ag_H} {a : Nat} (hb : md_ok h a) (hH : 0 ≤ d) {x1 : Int32} {x2 : Int32} {x3 : Int32} {x4 : Int32} {S : MS} {res : Int32 × MS} (hyp : fn_Md_tamper_0 N x1 x2 x3 x4 S = some res) : ag_ev gc_P l G m_Md_tamper (d + 1) (ag_ret gc_P G (fun v h' => v = some (.int res.1) ∧ h' = md_up h a res.2)) 0 [(0, .ref a), (1, .int (x1)), (2, .int (x2)), (3, .int (x3)), (4, .int (x4))] [] (md_up h a S) := by
  unfold fn_Md_tamper_0 at hyp
  refine ag_aload_n d_Md_tamper_0 rfl ?_
  refine ag_iload_n d_Md_tamper_1 rfl ?_
  obtain ⟨r1, e1, hyp⟩ := md_bd hyp
  refine ag_callv (as := [.int (x1)]) d_Md_tamper_2 ml_Md_188 gw_1190 rfl sl_Md_isToken (md_at0 hb _) (Nat.le_of_ble_eq_true rfl) (w_Md_isToken hb (d := d) (by omega) e1) (fun v1 h1 q1 => ?_)
  obtain ⟨rfl, rfl⟩ := q1
  refine ag_if_eq d_Md_tamper_5 rfl (fun q => ?_) (fun q => ?_)
  · replace hyp := md_ifp q hyp
    exact ag_dr (ag_d1 rfl (ag_d1 rfl (ag_d1 rfl (ag_d1 rfl (ag_d1 rfl ag_d0))))) (w_Md_tamper_22 hb hH hyp)
  · replace hyp := md_ifn q hyp
    refine ag_iload_n d_Md_tamper_8 rfl ?_
    refine ag_if_lt d_Md_tamper_9 rfl (fun q => ?_) (fun q => ?_)
    · replace hyp := md_ifp q hyp
      exact ag_dr (ag_d1 rfl (ag_d1 rfl (ag_d1 rfl (ag_d1 rfl (ag_d1 rfl ag_d0))))) (w_Md_tamper_22 hb hH hyp)
    · replace hyp := md_ifn q hyp
      refine ag_iload_n d_Md_tamper_12 rfl ?_
      refine ag_bipush d_Md_tamper_13 ?_
      refine ag_icmp_gt d_Md_tamper_15 rfl (fun q => ?_) (fun q => ?_)
      · replace hyp := md_ifp q hyp
        exact ag_dr (ag_d1 rfl (ag_d1 rfl (ag_d1 rfl (ag_d1 rfl (ag_d1 rfl ag_d0))))) (w_Md_tamper_22 hb hH hyp)
      · replace hyp := md_ifn q hyp
        refine ag_iconst d_Md_tamper_18 ?_
        refine ag_goto d_Md_tamper_19 rfl ?_
        exact ag_dr (ag_d1 rfl (ag_d1 rfl (ag_d1 rfl (ag_d1 rfl (ag_d1 rfl ag_d0))))) (w_Md_tamper_23 hb hH hyp)
theorem w_Md_tamper {l : Launch} {G : ag_G} {d N : Nat} {h : ag_H} {a : Nat} (hb : md_ok h a) (hH : 1 ≤ d) {p1 : Int32} {p2 : Int32} {p3 : Int32} {p4 : Int32} {S : MS} {res : Int32 × MS} (hyp : fn_Md_tamper N p1 p2 p3 p4 S = some res) : ag_Met gc_P l G m_Md_tamper d [.ref a, .int (p1), .int (p2), .int (p3), .int (p4)] (md_up h a S) (fun v h' => v = some (.int res.1) ∧ h' = md_up h a res.2) := by
  obtain ⟨d, rfl, hG⟩ := md_dd hH
  exact ag_met (by decide) rfl (Nat.le_of_ble_eq_true rfl) (ag_dr (ag_d1 rfl (ag_d1 rfl (ag_d1 rfl (ag_d1 rfl (ag_d1 rfl ag_d0))))) (w_Md_tamper_0 hb hG hyp))
def fn_Md_limits_27 (N : Nat) (S : MS) : Option (Int32 × MS) := if md_01 (Int32.ofInt 0) = true then (some ((Int32.ofInt 0), S)) else none
def fn_Md_limits_0 (N : Nat) (x1 : Int32) (x2 : Int32) (S : MS) : Option (Int32 × MS) := if (x1) < (Int32.ofInt 1) then (fn_Md_limits_27 N  (va_up S.1 0 (Int32.ofInt 0), S.2)) else (if ((Int8.ofInt (30)).toInt32) < (x1) then (fn_Md_limits_27 N  (va_up S.1 0 (Int32.ofInt 0), S.2)) else (if (x2) < (Int32.ofInt 1) then (fn_Md_limits_27 N  (va_up S.1 0 (Int32.ofInt 0), S.2)) else (if (x2) ≤ ((Int8.ofInt (12)).toInt32) then (if md_01 (Int32.ofInt 1) = true then (some ((Int32.ofInt 1), (va_up (va_up (va_up S.1 0 (Int32.ofInt 0), S.2).1 7 (x1), (va_up S.1 0 (Int32.ofInt 0), S.2).2).1 8 (x2), (va_up (va_up S.1 0 (Int32.ofInt 0), S.2).1 7 (x1), (va_up S.1 0 (Int32.ofInt 0), S.2).2).2))) else none) else (fn_Md_limits_27 N  (va_up S.1 0 (Int32.ofInt 0), S.2)))))
def fn_Md_limits (N : Nat) (p1 : Int32) (p2 : Int32) (S : MS) : Option (Int32 × MS) := fn_Md_limits_0 N p1 p2 S
theorem w_Md_limits_27 {l : Launch} {G : ag_G} {d N : Nat} {h : ag_H} {a : Nat} (hb : md_ok h a) {S : MS} {res : Int32 × MS} (hyp : fn_Md_limits_27 N S = some res) : ag_ev gc_P l G m_Md_limits (d) (ag_ret gc_P G (fun v h' => v = some (.int res.1) ∧ h' = md_up h a res.2)) 27 [(0, .ref a)] [] (md_up h a S) := by
  unfold fn_Md_limits_27 at hyp
  refine ag_iconst d_Md_limits_27 ?_
  obtain ⟨qz, hyp⟩ := md_ifs hyp
  cases hyp
  exact ag_iret d_Md_limits_28 rfl (md_01n qz) ⟨rfl, rfl⟩
theorem w_Md_limits_0 {l : Launch} {G : ag_G} {d N : Nat} {h : ag_H} {a : Nat} (hb : md_ok h a) {x1 : Int32} {x2 : Int32} {S : MS} {res : Int32 × MS} (hyp : fn_Md_limits_0 N x1 x2 S = some res) : ag_ev gc_P l G m_Md_limits (d) (ag_ret gc_P G (fun v h' => v = some (.int res.1) ∧ h' = md_up h a res.2)) 0 [(0, .ref a), (1, .int (x1)), (2, .int (x2))] [] (md_up h a S) := by
  unfold fn_Md_limits_0 at hyp
  refine ag_aload_n d_Md_limits_0 rfl ?_
  refine ag_iconst d_Md_limits_1 ?_
  refine md_puti hb d_Md_limits_2 fl_Md_84 rfl (by decide) rfl rfl ?_
  refine ag_iload_n d_Md_limits_5 rfl ?_
  refine ag_iconst d_Md_limits_6 ?_
  refine ag_icmp_lt d_Md_limits_7 rfl (fun q => ?_) (fun q => ?_)
  · replace hyp := md_ifp q hyp
    exact ag_dr (ag_d1 rfl ag_d0) (w_Md_limits_27 hb hyp)
  · replace hyp := md_ifn q hyp
    refine ag_iload_n d_Md_limits_10 rfl ?_
    refine ag_bipush d_Md_limits_11 ?_
    refine ag_icmp_gt d_Md_limits_13 rfl (fun q => ?_) (fun q => ?_)
    · replace hyp := md_ifp q hyp
      exact ag_dr (ag_d1 rfl ag_d0) (w_Md_limits_27 hb hyp)
    · replace hyp := md_ifn q hyp
      refine ag_iload_n d_Md_limits_16 rfl ?_
      refine ag_iconst d_Md_limits_17 ?_
      refine ag_icmp_lt d_Md_limits_18 rfl (fun q => ?_) (fun q => ?_)
      · replace hyp := md_ifp q hyp
        exact ag_dr (ag_d1 rfl ag_d0) (w_Md_limits_27 hb hyp)
      · replace hyp := md_ifn q hyp
        refine ag_iload_n d_Md_limits_21 rfl ?_
        refine ag_bipush d_Md_limits_22 ?_
        refine ag_icmp_le d_Md_limits_24 rfl (fun q => ?_) (fun q => ?_)
        · replace hyp := md_ifp q hyp
          refine ag_aload_n d_Md_limits_29 rfl ?_
          refine ag_iload_n d_Md_limits_30 rfl ?_
          refine md_puti hb d_Md_limits_31 fl_Md_23 rfl (by decide) rfl rfl ?_
          refine ag_aload_n d_Md_limits_34 rfl ?_
          refine ag_iload_n d_Md_limits_35 rfl ?_
          refine md_puti hb d_Md_limits_36 fl_Md_26 rfl (by decide) rfl rfl ?_
          refine ag_iconst d_Md_limits_39 ?_
          obtain ⟨qz, hyp⟩ := md_ifs hyp
          cases hyp
          exact ag_iret d_Md_limits_40 rfl (md_01n qz) ⟨rfl, rfl⟩
        · replace hyp := md_ifn q hyp
          exact ag_dr (ag_d1 rfl ag_d0) (w_Md_limits_27 hb hyp)
theorem w_Md_limits {l : Launch} {G : ag_G} {d N : Nat} {h : ag_H} {a : Nat} (hb : md_ok h a) (hH : 0 ≤ d) {p1 : Int32} {p2 : Int32} {S : MS} {res : Int32 × MS} (hyp : fn_Md_limits N p1 p2 S = some res) : ag_Met gc_P l G m_Md_limits d [.ref a, .int (p1), .int (p2)] (md_up h a S) (fun v h' => v = some (.int res.1) ∧ h' = md_up h a res.2) := by
  exact ag_met (by decide) rfl (Nat.le_of_ble_eq_true rfl) (ag_dr (ag_d1 rfl (ag_d1 rfl (ag_d1 rfl ag_d0))) (w_Md_limits_0 hb hyp))
def fn_Md_right_122 (N : Nat) (s0 : Int32) (S : MS) : Option (Int32 × MS) := if md_01 (s0) = true then (some ((s0), S)) else none
def fn_Md_right_121 (N : Nat) (S : MS) : Option (Int32 × MS) := fn_Md_right_122 N (Int32.ofInt 0) S
def fn_Md_right_117 (N : Nat) (S : MS) : Option (Int32 × MS) := fn_Md_right_122 N (Int32.ofInt 1) S
def fn_Md_right_66 (N : Nat) (S : MS) : Option (Int32 × MS) := if md_01 (Int32.ofInt 0) = true then (some ((Int32.ofInt 0), S)) else none
def fn_Md_right_5 (N : Nat) : Nat → Int32 → Int32 → Int32 → MS → Option (Int32 × MS)
  | 0, _, _, _, _ => none
  | n + 1, x1, x3, x4, S => if md_in (x1) (md_len 4) = true then (if (S.2 4 (x1).toNatClampNeg) ≤ (x4) then (if md_in (x1) (md_len 7) = true then (if (S.2 7 (x1).toNatClampNeg) = (x3) then (if md_in (x1) (md_len 6) = true then (if (S.2 6 (x1).toNatClampNeg) = (0) then (fn_Md_right_117 N  S) else (if md_in (x1) (md_len 8) = true then (if md_in (x1) (md_len 4) = true then (if (S.2 8 (x1).toNatClampNeg) = (S.2 4 (x1).toNatClampNeg) then (fn_Md_right_117 N  S) else (fn_Md_right_121 N  S)) else none) else none)) else none) else (fn_Md_right_121 N  S)) else none) else ((fn_Md_link N (x1) (x4) (Int32.ofInt 2) S).bind fun r1 => if (r1.1) = (x3) then ((fn_Md_link N (x1) (x4) (Int32.ofInt 3) r1.2).bind fun r2 => (fn_Md_link N (x1) (x4) (Int32.ofInt 0) r2.2).bind fun r3 => if (r2.1) = (r3.1) then ((fn_Md_link N (x1) (x4) (Int32.ofInt 4) r3.2).bind fun r4 => (fn_Md_link N (x1) (x4) (Int32.ofInt 1) r4.2).bind fun r5 => if (r4.1) = (r5.1) then ((fn_Md_link N (x1) (x4) (Int32.ofInt 1) r5.2).bind fun r6 => fn_Md_right_5 N n (x1) (r6.1) ((x4) + Int32.ofInt (1)) r6.2) else (fn_Md_right_66 N  r5.2)) else (fn_Md_right_66 N  r3.2)) else (fn_Md_right_66 N  r1.2))) else none
theorem fe_Md_right_5 (N : Nat) (n : Nat) (x1 : Int32) (x3 : Int32) (x4 : Int32) (S : MS) : fn_Md_right_5 N (n + 1) x1 x3 x4 S = (if md_in (x1) (md_len 4) = true then (if (S.2 4 (x1).toNatClampNeg) ≤ (x4) then (if md_in (x1) (md_len 7) = true then (if (S.2 7 (x1).toNatClampNeg) = (x3) then (if md_in (x1) (md_len 6) = true then (if (S.2 6 (x1).toNatClampNeg) = (0) then (fn_Md_right_117 N  S) else (if md_in (x1) (md_len 8) = true then (if md_in (x1) (md_len 4) = true then (if (S.2 8 (x1).toNatClampNeg) = (S.2 4 (x1).toNatClampNeg) then (fn_Md_right_117 N  S) else (fn_Md_right_121 N  S)) else none) else none)) else none) else (fn_Md_right_121 N  S)) else none) else ((fn_Md_link N (x1) (x4) (Int32.ofInt 2) S).bind fun r1 => if (r1.1) = (x3) then ((fn_Md_link N (x1) (x4) (Int32.ofInt 3) r1.2).bind fun r2 => (fn_Md_link N (x1) (x4) (Int32.ofInt 0) r2.2).bind fun r3 => if (r2.1) = (r3.1) then ((fn_Md_link N (x1) (x4) (Int32.ofInt 4) r3.2).bind fun r4 => (fn_Md_link N (x1) (x4) (Int32.ofInt 1) r4.2).bind fun r5 => if (r4.1) = (r5.1) then ((fn_Md_link N (x1) (x4) (Int32.ofInt 1) r5.2).bind fun r6 => fn_Md_right_5 N n (x1) (r6.1) ((x4) + Int32.ofInt (1)) r6.2) else (fn_Md_right_66 N  r5.2)) else (fn_Md_right_66 N  r3.2)) else (fn_Md_right_66 N  r1.2))) else none) := rfl
def fn_Md_right_0 (N : Nat) (x1 : Int32) (x2 : Int32) (S : MS) : Option (Int32 × MS) := fn_Md_right_5 N N (x1) (x2) (Int32.ofInt 0) S
def fn_Md_right (N : Nat) (p1 : Int32) (p2 : Int32) (S : MS) : Option (Int32 × MS) := fn_Md_right_0 N p1 p2 S
theorem w_Md_right_122 {l : Launch} {G : ag_G} {d N : Nat} {h : ag_H} {a : Nat} (hb : md_ok h a) (hH : 0 ≤ d) {s0 : Int32} {S : MS} {res : Int32 × MS} (hyp : fn_Md_right_122 N s0 S = some res) : ag_ev gc_P l G m_Md_right (d + 1) (ag_ret gc_P G (fun v h' => v = some (.int res.1) ∧ h' = md_up h a res.2)) 122 [(0, .ref a)] [.int (s0)] (md_up h a S) := by
  unfold fn_Md_right_122 at hyp
  obtain ⟨qz, hyp⟩ := md_ifs hyp
  cases hyp
  exact ag_iret d_Md_right_122 rfl (md_01n qz) ⟨rfl, rfl⟩
theorem w_Md_right_121 {l : Launch} {G : ag_G} {d N : Nat} {h : ag_H} {a : Nat} (hb : md_ok h a) (hH : 0 ≤ d) {S : MS} {res : Int32 × MS} (hyp : fn_Md_right_121 N S = some res) : ag_ev gc_P l G m_Md_right (d + 1) (ag_ret gc_P G (fun v h' => v = some (.int res.1) ∧ h' = md_up h a res.2)) 121 [(0, .ref a)] [] (md_up h a S) := by
  unfold fn_Md_right_121 at hyp
  refine ag_iconst d_Md_right_121 ?_
  exact ag_dr (ag_d1 rfl ag_d0) (w_Md_right_122 hb hH hyp)
theorem w_Md_right_117 {l : Launch} {G : ag_G} {d N : Nat} {h : ag_H} {a : Nat} (hb : md_ok h a) (hH : 0 ≤ d) {S : MS} {res : Int32 × MS} (hyp : fn_Md_right_117 N S = some res) : ag_ev gc_P l G m_Md_right (d + 1) (ag_ret gc_P G (fun v h' => v = some (.int res.1) ∧ h' = md_up h a res.2)) 117 [(0, .ref a)] [] (md_up h a S) := by
  unfold fn_Md_right_117 at hyp
  refine ag_iconst d_Md_right_117 ?_
  refine ag_goto d_Md_right_118 rfl ?_
  exact ag_dr (ag_d1 rfl ag_d0) (w_Md_right_122 hb hH hyp)
theorem w_Md_right_66 {l : Launch} {G : ag_G} {d N : Nat} {h : ag_H} {a : Nat} (hb : md_ok h a) (hH : 0 ≤ d) {S : MS} {res : Int32 × MS} (hyp : fn_Md_right_66 N S = some res) : ag_ev gc_P l G m_Md_right (d + 1) (ag_ret gc_P G (fun v h' => v = some (.int res.1) ∧ h' = md_up h a res.2)) 66 [(0, .ref a)] [] (md_up h a S) := by
  unfold fn_Md_right_66 at hyp
  refine ag_iconst d_Md_right_66 ?_
  obtain ⟨qz, hyp⟩ := md_ifs hyp
  cases hyp
  exact ag_iret d_Md_right_67 rfl (md_01n qz) ⟨rfl, rfl⟩
theorem w_Md_right_5 {l : Launch} {G : ag_G} {d N : Nat} {h : ag_H} {a : Nat} (hb : md_ok h a) (hH : 0 ≤ d) : ∀ (n : Nat) (res : Int32 × MS) (x1 : Int32) (x3 : Int32) (x4 : Int32) (S : MS) , fn_Md_right_5 N n x1 x3 x4 S = some res → ag_ev gc_P l G m_Md_right (d + 1) (ag_ret gc_P G (fun v h' => v = some (.int res.1) ∧ h' = md_up h a res.2)) 5 [(0, .ref a), (1, .int (x1)), (3, .int (x3)), (4, .int (x4))] [] (md_up h a S) := by
  intro n
  induction n with
  | zero =>
    intro res x1 x3 x4 S hyp
    cases hyp
  | succ n ih =>
    intro res x1 x3 x4 S hyp
    rw [fe_Md_right_5] at hyp
    refine ag_iload d_Md_right_5 rfl ?_
    refine ag_aload_n d_Md_right_7 rfl ?_
    refine md_get hb d_Md_right_8 fr_Md_29 rfl ?_
    refine ag_iload_n d_Md_right_11 rfl ?_
    obtain ⟨qi, hyp⟩ := md_ifs hyp
    refine md_ald hb d_Md_right_12 (by decide) (by decide) rfl qi ?_
    refine ag_icmp_ge d_Md_right_13 rfl (fun q => ?_) (fun q => ?_)
    · replace hyp := md_ifp q hyp
      refine ag_aload_n d_Md_right_83 rfl ?_
      refine md_get hb d_Md_right_84 fr_Md_39 rfl ?_
      refine ag_iload_n d_Md_right_87 rfl ?_
      obtain ⟨qi, hyp⟩ := md_ifs hyp
      refine md_ald hb d_Md_right_88 (by decide) (by decide) rfl qi ?_
      refine ag_iload_n d_Md_right_89 rfl ?_
      refine ag_icmp_ne d_Md_right_90 rfl (fun q => ?_) (fun q => ?_)
      · replace hyp := md_ifn q hyp
        exact ag_dr (ag_d1 rfl ag_d0) (w_Md_right_121 hb hH hyp)
      · replace hyp := md_ifp q hyp
        refine ag_aload_n d_Md_right_93 rfl ?_
        refine md_get hb d_Md_right_94 fr_Md_35 rfl ?_
        refine ag_iload_n d_Md_right_97 rfl ?_
        obtain ⟨qi, hyp⟩ := md_ifs hyp
        refine md_zald hb d_Md_right_98 (by decide) (by decide) rfl qi ?_
        refine ag_if_eq d_Md_right_99 rfl (fun q => ?_) (fun q => ?_)
        · replace hyp := md_ifp q hyp
          exact ag_dr (ag_d1 rfl ag_d0) (w_Md_right_117 hb hH hyp)
        · replace hyp := md_ifn q hyp
          refine ag_aload_n d_Md_right_102 rfl ?_
          refine md_get hb d_Md_right_103 fr_Md_42 rfl ?_
          refine ag_iload_n d_Md_right_106 rfl ?_
          obtain ⟨qi, hyp⟩ := md_ifs hyp
          refine md_ald hb d_Md_right_107 (by decide) (by decide) rfl qi ?_
          refine ag_aload_n d_Md_right_108 rfl ?_
          refine md_get hb d_Md_right_109 fr_Md_29 rfl ?_
          refine ag_iload_n d_Md_right_112 rfl ?_
          obtain ⟨qi, hyp⟩ := md_ifs hyp
          refine md_ald hb d_Md_right_113 (by decide) (by decide) rfl qi ?_
          refine ag_icmp_ne d_Md_right_114 rfl (fun q => ?_) (fun q => ?_)
          · replace hyp := md_ifn q hyp
            exact ag_dr (ag_d1 rfl ag_d0) (w_Md_right_121 hb hH hyp)
          · replace hyp := md_ifp q hyp
            exact ag_dr (ag_d1 rfl ag_d0) (w_Md_right_117 hb hH hyp)
    · replace hyp := md_ifn q hyp
      refine ag_aload_n d_Md_right_16 rfl ?_
      refine ag_iload_n d_Md_right_17 rfl ?_
      refine ag_iload d_Md_right_18 rfl ?_
      refine ag_iconst d_Md_right_20 ?_
      obtain ⟨r1, e1, hyp⟩ := md_bd hyp
      refine ag_callv (as := [.int (x1), .int (x4), .int (Int32.ofInt 2)]) d_Md_right_21 ml_Md_198 gw_1210 rfl sl_Md_link (md_at0 hb _) (Nat.le_of_ble_eq_true rfl) (w_Md_link hb (d := d) (by omega) e1) (fun v1 h1 q1 => ?_)
      obtain ⟨rfl, rfl⟩ := q1
      refine ag_iload_n d_Md_right_24 rfl ?_
      refine ag_icmp_ne d_Md_right_25 rfl (fun q => ?_) (fun q => ?_)
      · replace hyp := md_ifn q hyp
        exact ag_dr (ag_d1 rfl ag_d0) (w_Md_right_66 hb hH hyp)
      · replace hyp := md_ifp q hyp
        refine ag_aload_n d_Md_right_28 rfl ?_
        refine ag_iload_n d_Md_right_29 rfl ?_
        refine ag_iload d_Md_right_30 rfl ?_
        refine ag_iconst d_Md_right_32 ?_
        obtain ⟨r2, e2, hyp⟩ := md_bd hyp
        refine ag_callv (as := [.int (x1), .int (x4), .int (Int32.ofInt 3)]) d_Md_right_33 ml_Md_198 gw_1210 rfl sl_Md_link (md_at0 hb _) (Nat.le_of_ble_eq_true rfl) (w_Md_link hb (d := d) (by omega) e2) (fun v2 h2 q2 => ?_)
        obtain ⟨rfl, rfl⟩ := q2
        refine ag_aload_n d_Md_right_36 rfl ?_
        refine ag_iload_n d_Md_right_37 rfl ?_
        refine ag_iload d_Md_right_38 rfl ?_
        refine ag_iconst d_Md_right_40 ?_
        obtain ⟨r3, e3, hyp⟩ := md_bd hyp
        refine ag_callv (as := [.int (x1), .int (x4), .int (Int32.ofInt 0)]) d_Md_right_41 ml_Md_198 gw_1210 rfl sl_Md_link (md_at0 hb _) (Nat.le_of_ble_eq_true rfl) (w_Md_link hb (d := d) (by omega) e3) (fun v3 h3 q3 => ?_)
        obtain ⟨rfl, rfl⟩ := q3
        refine ag_icmp_ne d_Md_right_44 rfl (fun q => ?_) (fun q => ?_)
        · replace hyp := md_ifn q hyp
          exact ag_dr (ag_d1 rfl ag_d0) (w_Md_right_66 hb hH hyp)
        · replace hyp := md_ifp q hyp
          refine ag_aload_n d_Md_right_47 rfl ?_
          refine ag_iload_n d_Md_right_48 rfl ?_
          refine ag_iload d_Md_right_49 rfl ?_
          refine ag_iconst d_Md_right_51 ?_
          obtain ⟨r4, e4, hyp⟩ := md_bd hyp
          refine ag_callv (as := [.int (x1), .int (x4), .int (Int32.ofInt 4)]) d_Md_right_52 ml_Md_198 gw_1210 rfl sl_Md_link (md_at0 hb _) (Nat.le_of_ble_eq_true rfl) (w_Md_link hb (d := d) (by omega) e4) (fun v4 h4 q4 => ?_)
          obtain ⟨rfl, rfl⟩ := q4
          refine ag_aload_n d_Md_right_55 rfl ?_
          refine ag_iload_n d_Md_right_56 rfl ?_
          refine ag_iload d_Md_right_57 rfl ?_
          refine ag_iconst d_Md_right_59 ?_
          obtain ⟨r5, e5, hyp⟩ := md_bd hyp
          refine ag_callv (as := [.int (x1), .int (x4), .int (Int32.ofInt 1)]) d_Md_right_60 ml_Md_198 gw_1210 rfl sl_Md_link (md_at0 hb _) (Nat.le_of_ble_eq_true rfl) (w_Md_link hb (d := d) (by omega) e5) (fun v5 h5 q5 => ?_)
          obtain ⟨rfl, rfl⟩ := q5
          refine ag_icmp_eq d_Md_right_63 rfl (fun q => ?_) (fun q => ?_)
          · replace hyp := md_ifp q hyp
            refine ag_aload_n d_Md_right_68 rfl ?_
            refine ag_iload_n d_Md_right_69 rfl ?_
            refine ag_iload d_Md_right_70 rfl ?_
            refine ag_iconst d_Md_right_72 ?_
            obtain ⟨r6, e6, hyp⟩ := md_bd hyp
            refine ag_callv (as := [.int (x1), .int (x4), .int (Int32.ofInt 1)]) d_Md_right_73 ml_Md_198 gw_1210 rfl sl_Md_link (md_at0 hb _) (Nat.le_of_ble_eq_true rfl) (w_Md_link hb (d := d) (by omega) e6) (fun v6 h6 q6 => ?_)
            obtain ⟨rfl, rfl⟩ := q6
            refine ag_istore_n d_Md_right_76 (by decide) ?_
            refine ag_iinc d_Md_right_77 rfl (by decide) ?_
            refine ag_goto d_Md_right_80 rfl ?_
            exact ag_dr (ag_d1 rfl (ag_d1 rfl (ag_d1 rfl (ag_d1 rfl ag_d0)))) (ih _ _ _ _ _ hyp)
          · replace hyp := md_ifn q hyp
            exact ag_dr (ag_d1 rfl ag_d0) (w_Md_right_66 hb hH hyp)
theorem w_Md_right_0 {l : Launch} {G : ag_G} {d N : Nat} {h : ag_H} {a : Nat} (hb : md_ok h a) (hH : 0 ≤ d) {x1 : Int32} {x2 : Int32} {S : MS} {res : Int32 × MS} (hyp : fn_Md_right_0 N x1 x2 S = some res) : ag_ev gc_P l G m_Md_right (d + 1) (ag_ret gc_P G (fun v h' => v = some (.int res.1) ∧ h' = md_up h a res.2)) 0 [(0, .ref a), (1, .int (x1)), (2, .int (x2))] [] (md_up h a S) := by
  unfold fn_Md_right_0 at hyp
  refine ag_iload_n d_Md_right_0 rfl ?_
  refine ag_istore_n d_Md_right_1 (by decide) ?_
  refine ag_iconst d_Md_right_2 ?_
  refine ag_istore d_Md_right_3 (by decide) ?_
  exact ag_dr (ag_d1 rfl (ag_d1 rfl (ag_d1 rfl (ag_d1 rfl ag_d0)))) (w_Md_right_5 hb hH N _ _ _ _ _ hyp)
theorem w_Md_right {l : Launch} {G : ag_G} {d N : Nat} {h : ag_H} {a : Nat} (hb : md_ok h a) (hH : 1 ≤ d) {p1 : Int32} {p2 : Int32} {S : MS} {res : Int32 × MS} (hyp : fn_Md_right N p1 p2 S = some res) : ag_Met gc_P l G m_Md_right d [.ref a, .int (p1), .int (p2)] (md_up h a S) (fun v h' => v = some (.int res.1) ∧ h' = md_up h a res.2) := by
  obtain ⟨d, rfl, hG⟩ := md_dd hH
  exact ag_met (by decide) rfl (Nat.le_of_ble_eq_true rfl) (ag_dr (ag_d1 rfl (ag_d1 rfl (ag_d1 rfl ag_d0))) (w_Md_right_0 hb hG hyp))
def fn_Md_load_0 (N : Nat) (x1 : Int32) (x2 : Int32) (S : MS) : Option (Int32 × MS) := (fn_Md_read N (x1) (S.1 15) S).bind fun r1 => if md_in (S.1 15) (md_len 9) = true then (if md_in ((r1.2.1, va_up r1.2.2 9 (upd (r1.2.2 9) (S.1 15).toNatClampNeg (r1.1))).1 15) (md_len 10) = true then (some (0, (va_up ((r1.2.1, va_up r1.2.2 9 (upd (r1.2.2 9) (S.1 15).toNatClampNeg (r1.1))).1, va_up (r1.2.1, va_up r1.2.2 9 (upd (r1.2.2 9) (S.1 15).toNatClampNeg (r1.1))).2 10 (upd ((r1.2.1, va_up r1.2.2 9 (upd (r1.2.2 9) (S.1 15).toNatClampNeg (r1.1))).2 10) ((r1.2.1, va_up r1.2.2 9 (upd (r1.2.2 9) (S.1 15).toNatClampNeg (r1.1))).1 15).toNatClampNeg (x2))).1 15 ((((r1.2.1, va_up r1.2.2 9 (upd (r1.2.2 9) (S.1 15).toNatClampNeg (r1.1))).1, va_up (r1.2.1, va_up r1.2.2 9 (upd (r1.2.2 9) (S.1 15).toNatClampNeg (r1.1))).2 10 (upd ((r1.2.1, va_up r1.2.2 9 (upd (r1.2.2 9) (S.1 15).toNatClampNeg (r1.1))).2 10) ((r1.2.1, va_up r1.2.2 9 (upd (r1.2.2 9) (S.1 15).toNatClampNeg (r1.1))).1 15).toNatClampNeg (x2))).1 15) + (Int32.ofInt 1)), ((r1.2.1, va_up r1.2.2 9 (upd (r1.2.2 9) (S.1 15).toNatClampNeg (r1.1))).1, va_up (r1.2.1, va_up r1.2.2 9 (upd (r1.2.2 9) (S.1 15).toNatClampNeg (r1.1))).2 10 (upd ((r1.2.1, va_up r1.2.2 9 (upd (r1.2.2 9) (S.1 15).toNatClampNeg (r1.1))).2 10) ((r1.2.1, va_up r1.2.2 9 (upd (r1.2.2 9) (S.1 15).toNatClampNeg (r1.1))).1 15).toNatClampNeg (x2))).2))) else none) else none
def fn_Md_load (N : Nat) (p1 : Int32) (p2 : Int32) (S : MS) : Option (Int32 × MS) := fn_Md_load_0 N p1 p2 S
theorem w_Md_load_0 {l : Launch} {G : ag_G} {d N : Nat} {h : ag_H} {a : Nat} (hb : md_ok h a) (hH : 5 ≤ d) {x1 : Int32} {x2 : Int32} {S : MS} {res : Int32 × MS} (hyp : fn_Md_load_0 N x1 x2 S = some res) : ag_ev gc_P l G m_Md_load (d + 1) (ag_ret gc_P G (fun v h' => v = none ∧ h' = md_up h a res.2)) 0 [(0, .ref a), (1, .int (x1)), (2, .int (x2))] [] (md_up h a S) := by
  unfold fn_Md_load_0 at hyp
  refine ag_aload_n d_Md_load_0 rfl ?_
  refine md_get hb d_Md_load_1 fr_Md_45 rfl ?_
  refine ag_aload_n d_Md_load_4 rfl ?_
  refine md_get hb d_Md_load_5 fr_Md_252 rfl ?_
  refine ag_aload_n d_Md_load_8 rfl ?_
  refine ag_iload_n d_Md_load_9 rfl ?_
  refine ag_aload_n d_Md_load_10 rfl ?_
  refine md_get hb d_Md_load_11 fr_Md_252 rfl ?_
  obtain ⟨r1, e1, hyp⟩ := md_bd hyp
  refine ag_callv (as := [.int (x1), .int (S.1 15)]) d_Md_load_14 ml_Md_164 gw_1099 rfl sl_Md_read (md_at0 hb _) (Nat.le_of_ble_eq_true rfl) (w_Md_read hb (d := d) (by omega) e1) (fun v1 h1 q1 => ?_)
  obtain ⟨rfl, rfl⟩ := q1
  obtain ⟨qi, hyp⟩ := md_ifs hyp
  refine md_ast hb d_Md_load_17 (by decide) (by decide) rfl qi ?_
  refine ag_aload_n d_Md_load_18 rfl ?_
  refine md_get hb d_Md_load_19 fr_Md_48 rfl ?_
  refine ag_aload_n d_Md_load_22 rfl ?_
  refine md_get hb d_Md_load_23 fr_Md_252 rfl ?_
  refine ag_iload_n d_Md_load_26 rfl ?_
  obtain ⟨qi, hyp⟩ := md_ifs hyp
  refine md_ast hb d_Md_load_27 (by decide) (by decide) rfl qi ?_
  refine ag_aload_n d_Md_load_28 rfl ?_
  refine ag_dup d_Md_load_29 rfl ?_
  refine md_get hb d_Md_load_30 fr_Md_252 rfl ?_
  refine ag_iconst d_Md_load_33 ?_
  refine ag_iadd d_Md_load_34 ?_
  refine md_puti hb d_Md_load_35 fl_Md_252 rfl (by decide) rfl rfl ?_
  cases hyp
  exact ag_vret d_Md_load_38 rfl ⟨rfl, rfl⟩
theorem w_Md_load {l : Launch} {G : ag_G} {d N : Nat} {h : ag_H} {a : Nat} (hb : md_ok h a) (hH : 6 ≤ d) {p1 : Int32} {p2 : Int32} {S : MS} {res : Int32 × MS} (hyp : fn_Md_load N p1 p2 S = some res) : ag_Met gc_P l G m_Md_load d [.ref a, .int (p1), .int (p2)] (md_up h a S) (fun v h' => v = none ∧ h' = md_up h a res.2) := by
  obtain ⟨d, rfl, hG⟩ := md_dd hH
  exact ag_met (by decide) rfl (Nat.le_of_ble_eq_true rfl) (ag_dr (ag_d1 rfl (ag_d1 rfl (ag_d1 rfl ag_d0))) (w_Md_load_0 hb hG hyp))
def fn_Md_worth_23 (N : Nat) (s0 : Int32) (S : MS) : Option (Int32 × MS) := some ((s0), S)
def fn_Md_worth_0 (N : Nat) (x1 : Int32) (S : MS) : Option (Int32 × MS) := if (x1) < ((100000 : Int32)) then (fn_Md_worth_23 N ((x1) - ((Int16.ofInt (10000)).toInt32)) S) else (if md_in ((x1) - ((100000 : Int32))) (md_len 20) = true then (fn_Md_worth_23 N (S.2 20 ((x1) - ((100000 : Int32))).toNatClampNeg) S) else none)
def fn_Md_worth (N : Nat) (p1 : Int32) (S : MS) : Option (Int32 × MS) := fn_Md_worth_0 N p1 S
theorem w_Md_worth_23 {l : Launch} {G : ag_G} {d N : Nat} {h : ag_H} {a : Nat} (hb : md_ok h a) {s0 : Int32} {S : MS} {res : Int32 × MS} (hyp : fn_Md_worth_23 N s0 S = some res) : ag_ev gc_P l G m_Md_worth (d) (ag_ret gc_P G (fun v h' => v = some (.int res.1) ∧ h' = md_up h a res.2)) 23 [(0, .ref a)] [.int (s0)] (md_up h a S) := by
  unfold fn_Md_worth_23 at hyp
  cases hyp
  exact ag_iret d_Md_worth_23 rfl rfl ⟨rfl, rfl⟩
theorem w_Md_worth_0 {l : Launch} {G : ag_G} {d N : Nat} {h : ag_H} {a : Nat} (hb : md_ok h a) {x1 : Int32} {S : MS} {res : Int32 × MS} (hyp : fn_Md_worth_0 N x1 S = some res) : ag_ev gc_P l G m_Md_worth (d) (ag_ret gc_P G (fun v h' => v = some (.int res.1) ∧ h' = md_up h a res.2)) 0 [(0, .ref a), (1, .int (x1))] [] (md_up h a S) := by
  unfold fn_Md_worth_0 at hyp
  refine ag_iload_n d_Md_worth_0 rfl ?_
  refine ag_ldc d_Md_worth_1 gw_1117 ?_
  refine ag_icmp_lt d_Md_worth_3 rfl (fun q => ?_) (fun q => ?_)
  · replace hyp := md_ifp q hyp
    refine ag_iload_n d_Md_worth_18 rfl ?_
    refine ag_sipush d_Md_worth_19 ?_
    refine ag_isub d_Md_worth_22 ?_
    exact ag_dr (ag_d1 rfl ag_d0) (w_Md_worth_23 hb hyp)
  · replace hyp := md_ifn q hyp
    refine ag_aload_n d_Md_worth_6 rfl ?_
    refine md_get hb d_Md_worth_7 fr_Md_78 rfl ?_
    refine ag_iload_n d_Md_worth_10 rfl ?_
    refine ag_ldc d_Md_worth_11 gw_1117 ?_
    refine ag_isub d_Md_worth_13 ?_
    obtain ⟨qi, hyp⟩ := md_ifs hyp
    refine md_ald hb d_Md_worth_14 (by decide) (by decide) rfl qi ?_
    refine ag_goto d_Md_worth_15 rfl ?_
    exact ag_dr (ag_d1 rfl ag_d0) (w_Md_worth_23 hb hyp)
theorem w_Md_worth {l : Launch} {G : ag_G} {d N : Nat} {h : ag_H} {a : Nat} (hb : md_ok h a) (hH : 0 ≤ d) {p1 : Int32} {S : MS} {res : Int32 × MS} (hyp : fn_Md_worth N p1 S = some res) : ag_Met gc_P l G m_Md_worth d [.ref a, .int (p1)] (md_up h a S) (fun v h' => v = some (.int res.1) ∧ h' = md_up h a res.2) := by
  exact ag_met (by decide) rfl (Nat.le_of_ble_eq_true rfl) (ag_dr (ag_d1 rfl (ag_d1 rfl ag_d0)) (w_Md_worth_0 hb hyp))
