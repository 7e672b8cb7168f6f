/-! ### The start; the reference's place after a call -/
theorem fr_md {b : Nat} {h g : ag_H} {S : MS} (hF : fr_H b (md_up h b S) g) : g = md_up g b S := by
  refine Prod.ext rfl (Prod.ext rfl (funext fun q => ?_))
  show g.2.2 q = (if q < b then g.2.2 q else if q = b then .inr (10, md_fs b S.1) else if q ≤ b + 21 then md_ar S (q - b) else g.2.2 q)
  by_cases e1 : q < b
  · rw [if_pos e1]
  · rw [if_neg e1]
    by_cases e3 : q ≤ b + 21
    · have h1 := hF.2.1 q (by omega) e3
      rw [h1]
      show (if q < b then h.2.2 q else if q = b then .inr (10, md_fs b S.1) else if q ≤ b + 21 then md_ar S (q - b) else h.2.2 q) = _
      rw [if_neg e1, if_pos e3, if_pos e3]
    · rw [if_neg (by omega), if_neg e3]
theorem fr_obd {b ci : Nat} {fs : List Value} (h : fs.all (fun v => match v with | .ref q => decide (q < b ∨ b + 21 < q) | _ => true) = true) : fr_C b (.inr (ci, fs)) := by
  intro v hv q e
  have := List.all_eq_true.mp h v hv
  subst e
  exact of_decide_eq_true this
theorem gx_b52 : gx_b = 52 := rfl
theorem gx_h75 : gx_h2.1 = 75 := rfl
theorem fs_43 : fr_C 52 (gx_h2.2.2 43) := by
  intro j r e
  replace e : (if j = 4 then some 41 else if j = 3 then some 41 else if j = 2 then some 41 else if j = 1 then some 41 else if j = 0 then some 41 else none) = some r := e
  refine Or.inl ?_
  split at e
  · cases e; decide
  split at e
  · cases e; decide
  split at e
  · cases e; decide
  split at e
  · cases e; decide
  split at e
  · cases e; decide
  cases e
theorem fs_cells : ∀ q, q < 52 → fr_C 52 (gx_h2.2.2 q)
  | 0, _ => show fr_C 52 (gx_h2.2.2 0) from (fr_obd rfl)
  | 1, _ => show fr_C 52 (gx_h2.2.2 1) from (fr_obd rfl)
  | 2, _ => show fr_C 52 (gx_h2.2.2 2) from (fr_obd rfl)
  | 3, _ => show fr_C 52 (gx_h2.2.2 3) from (fr_obd rfl)
  | 4, _ => show fr_C 52 (gx_h2.2.2 4) from trivial
  | 5, _ => show fr_C 52 (gx_h2.2.2 5) from (fr_obd rfl)
  | 6, _ => show fr_C 52 (gx_h2.2.2 6) from trivial
  | 7, _ => show fr_C 52 (gx_h2.2.2 7) from (fr_obd rfl)
  | 8, _ => show fr_C 52 (gx_h2.2.2 8) from (fr_obd rfl)
  | 9, _ => show fr_C 52 (gx_h2.2.2 9) from (fun j r e => by
    replace e : (if j < 31 then some (9 + 1 + j) else none) = some r := e
    by_cases h : j < 31
    · rw [if_pos h] at e; cases e; exact Or.inl (by omega)
    · rw [if_neg h] at e; cases e)
  | 10, _ => show fr_C 52 (gx_h2.2.2 10) from trivial
  | 11, _ => show fr_C 52 (gx_h2.2.2 11) from trivial
  | 12, _ => show fr_C 52 (gx_h2.2.2 12) from trivial
  | 13, _ => show fr_C 52 (gx_h2.2.2 13) from trivial
  | 14, _ => show fr_C 52 (gx_h2.2.2 14) from trivial
  | 15, _ => show fr_C 52 (gx_h2.2.2 15) from trivial
  | 16, _ => show fr_C 52 (gx_h2.2.2 16) from trivial
  | 17, _ => show fr_C 52 (gx_h2.2.2 17) from trivial
  | 18, _ => show fr_C 52 (gx_h2.2.2 18) from trivial
  | 19, _ => show fr_C 52 (gx_h2.2.2 19) from trivial
  | 20, _ => show fr_C 52 (gx_h2.2.2 20) from trivial
  | 21, _ => show fr_C 52 (gx_h2.2.2 21) from trivial
  | 22, _ => show fr_C 52 (gx_h2.2.2 22) from trivial
  | 23, _ => show fr_C 52 (gx_h2.2.2 23) from trivial
  | 24, _ => show fr_C 52 (gx_h2.2.2 24) from trivial
  | 25, _ => show fr_C 52 (gx_h2.2.2 25) from trivial
  | 26, _ => show fr_C 52 (gx_h2.2.2 26) from trivial
  | 27, _ => show fr_C 52 (gx_h2.2.2 27) from trivial
  | 28, _ => show fr_C 52 (gx_h2.2.2 28) from trivial
  | 29, _ => show fr_C 52 (gx_h2.2.2 29) from trivial
  | 30, _ => show fr_C 52 (gx_h2.2.2 30) from trivial
  | 31, _ => show fr_C 52 (gx_h2.2.2 31) from trivial
  | 32, _ => show fr_C 52 (gx_h2.2.2 32) from trivial
  | 33, _ => show fr_C 52 (gx_h2.2.2 33) from trivial
  | 34, _ => show fr_C 52 (gx_h2.2.2 34) from trivial
  | 35, _ => show fr_C 52 (gx_h2.2.2 35) from trivial
  | 36, _ => show fr_C 52 (gx_h2.2.2 36) from trivial
  | 37, _ => show fr_C 52 (gx_h2.2.2 37) from trivial
  | 38, _ => show fr_C 52 (gx_h2.2.2 38) from trivial
  | 39, _ => show fr_C 52 (gx_h2.2.2 39) from trivial
  | 40, _ => show fr_C 52 (gx_h2.2.2 40) from trivial
  | 41, _ => show fr_C 52 (gx_h2.2.2 41) from (fr_obd rfl)
  | 42, _ => show fr_C 52 (gx_h2.2.2 42) from (fr_obd rfl)
  | 43, _ => show fr_C 52 (gx_h2.2.2 43) from fs_43
  | 44, _ => show fr_C 52 (gx_h2.2.2 44) from trivial
  | 45, _ => show fr_C 52 (gx_h2.2.2 45) from trivial
  | 46, _ => show fr_C 52 (gx_h2.2.2 46) from (fr_obd rfl)
  | 47, _ => show fr_C 52 (gx_h2.2.2 47) from (fr_obd rfl)
  | 48, _ => show fr_C 52 (gx_h2.2.2 48) from (fr_obd rfl)
  | 49, _ => show fr_C 52 (gx_h2.2.2 49) from (fr_obd rfl)
  | 50, _ => show fr_C 52 (gx_h2.2.2 50) from (fr_obd rfl)
  | 51, _ => show fr_C 52 (gx_h2.2.2 51) from (fr_obd rfl)
  | q + 52, h => absurd h (by omega)
theorem fr_start : fr_H 52 (md_up gx_h2 52 md_S0) (md_up gx_h2 52 md_S0) := by
  refine ⟨⟨by decide, show 52 + 21 < gx_h2.1 by rw [gx_h75]; decide⟩, fun q _ _ => rfl, fun q h1 h2 => ?_⟩
  have h1' : q < gx_h2.1 := h1
  rw [gx_h75] at h1'
  show fr_C 52 (if q < 52 then gx_h2.2.2 q else if q = 52 then .inr (10, md_fs 52 md_S0.1) else if q ≤ 52 + 21 then md_ar md_S0 (q - 52) else gx_h2.2.2 q)
  rcases h2 with h2 | h2
  · rw [if_pos h2]
    exact fs_cells q h2
  · rw [if_neg (by omega), if_neg (by omega), if_neg (by omega)]
    obtain rfl : q = 74 := by omega
    exact trivial
