/-! ### The start -/
theorem gs_rows : ∀ q, 10 ≤ q ∧ q ≤ 40 → gx_h2.2.2 q = .inl (0, 5, .inl (fun _ => 0))
  | 0, h => absurd h.1 (by decide)
  | 1, h => absurd h.1 (by decide)
  | 2, h => absurd h.1 (by decide)
  | 3, h => absurd h.1 (by decide)
  | 4, h => absurd h.1 (by decide)
  | 5, h => absurd h.1 (by decide)
  | 6, h => absurd h.1 (by decide)
  | 7, h => absurd h.1 (by decide)
  | 8, h => absurd h.1 (by decide)
  | 9, h => absurd h.1 (by decide)
  | 10, _ => rfl
  | 11, _ => rfl
  | 12, _ => rfl
  | 13, _ => rfl
  | 14, _ => rfl
  | 15, _ => rfl
  | 16, _ => rfl
  | 17, _ => rfl
  | 18, _ => rfl
  | 19, _ => rfl
  | 20, _ => rfl
  | 21, _ => rfl
  | 22, _ => rfl
  | 23, _ => rfl
  | 24, _ => rfl
  | 25, _ => rfl
  | 26, _ => rfl
  | 27, _ => rfl
  | 28, _ => rfl
  | 29, _ => rfl
  | 30, _ => rfl
  | 31, _ => rfl
  | 32, _ => rfl
  | 33, _ => rfl
  | 34, _ => rfl
  | 35, _ => rfl
  | 36, _ => rfl
  | 37, _ => rfl
  | 38, _ => rfl
  | 39, _ => rfl
  | 40, _ => rfl
  | q + 41, h => absurd h.2 (by omega)
def ow0 (q : Nat) : Nat := if q = 46 then 0 else if q = 47 then 2 else if q = 48 then 3 else if q = 49 then 4 else if q = 50 then 0 else if q = 51 then 5 else 1
theorem gs_2 : gx_h2.2.2 2 = .inr (0, [.ref 3, .ref 5, .ref 7, .ref 46, .ref 48, .ref 49, .ref 50, .int (Int32.ofNat 3), .int (Int32.ofNat 30), .int (Int32.ofNat 10)]) := rfl
theorem gs_slots : gx_h2.2.1 = 7192 := rfl
theorem gs_cI : cI ow0 (md_up gx_h2 52 md_S0) (fun _ => 0) 0 [] [] [] [] 3 30 10 0 0 0 [] := by
  have o : (md_up gx_h2 52 md_S0).1 = 75 := gx_h75
  have lo : ∀ q, q < 52 → (md_up gx_h2 52 md_S0).2.2 q = gx_h2.2.2 q := fun q hq => md_out (Or.inl hq)
  refine ⟨by omega, ⟨0, fun _ => 0, (lo 3 (by decide)).trans rfl, (lo 4 (by decide)).trans rfl, fun i hi => absurd hi (by omega)⟩, ⟨0, 0, 0, fun _ => 0, (lo 5 (by decide)).trans rfl, (lo 6 (by decide)).trans rfl⟩, ⟨0, 0, 0, 0, 0, 0, 0, 0, fun j => if j < 31 then some (9 + 1 + j) else none, fun _ _ => 0, fun _ => 0, fun _ => 0, fun i => 10 + i, ⟨(lo 7 (by decide)).trans rfl, (lo 8 (by decide)).trans rfl, (lo 9 (by decide)).trans rfl, (lo 44 (by decide)).trans rfl, (lo 45 (by decide)).trans rfl, fun q hq => (lo q (by omega)).trans (gs_rows q hq)⟩, ⟨fun i hi => ⟨?_, by show 10 ≤ 10 + i; omega, by show 10 + i ≤ 40; omega⟩, fun i j _ _ e => by have e : 10 + i = 10 + j := e; omega⟩, Nat.zero_le _, fun i r hi => by cases hi⟩, ⟨(lo 41 (by decide)).trans rfl, ⟨0, (lo 42 (by decide)).trans rfl⟩, fun j => if j = 4 then some 41 else if j = 3 then some 41 else if j = 2 then some 41 else if j = 1 then some 41 else if j = 0 then some 41 else none, (lo 43 (by decide)).trans rfl⟩, 50, (lo 2 (by decide)).trans gs_2, ?_⟩
  · show (if i < 31 then some (9 + 1 + i) else none) = some (10 + i)
    rw [if_pos hi]
  · refine ⟨fun q hq => ?_, ⟨rfl, (lo 46 (by decide)).trans rfl⟩, ⟨rfl, by decide, by omega, 0, Or.inl ⟨rfl, (lo 47 (by decide)).trans rfl⟩⟩, ⟨rfl, by decide, by omega, 0, Or.inl ⟨rfl, (lo 48 (by decide)).trans rfl⟩⟩, ⟨rfl, by decide, by omega, 0, Or.inl ⟨rfl, (lo 49 (by decide)).trans rfl⟩⟩, rfl, by decide, by omega, 51, (lo 50 (by decide)).trans rfl, ⟨rfl, by decide, by omega, 0, Or.inl ⟨rfl, (lo 51 (by decide)).trans rfl⟩⟩⟩
    unfold ow0 at hq
    by_cases e : 46 ≤ q ∧ q < 52
    · exact Or.inl e
    · rw [if_neg (by omega), if_neg (by omega), if_neg (by omega), if_neg (by omega), if_neg (by omega), if_neg (by omega)] at hq
      exact absurd rfl hq
theorem gs_mI : mI md_S0 (fun _ => 0) 0 [] [] [] [] 3 30 10 0 0 0 [] := by
  refine ⟨⟨rfl, rfl, rfl, rfl, rfl, rfl⟩, ⟨rfl, fun i hi => absurd hi (by omega)⟩, ⟨rfl, (fun i x hi => by cases hi), (fun b L hb => by cases hb), (fun i x hi => by cases hi)⟩, ⟨(fun t T ht => by cases ht), fun t _ => rfl⟩, rfl, rfl, rfl, rfl, (fun i r hi => by cases hi)⟩
theorem gs_ok : g_ok (fun _ => 0) 0 [] [] [] [] 3 30 10 := by
  refine ⟨⟨by decide, fun i hi => absurd hi (by omega)⟩, ⟨by decide, fun x hx => by cases hx⟩, ⟨by decide, fun x hx => by cases hx⟩, ⟨by decide, fun x hx => by cases hx⟩, ⟨by decide, fun x hx => by cases hx⟩, by decide, by decide, by decide⟩
theorem gz_start : gI 0 gx_h2 md_S0 := by
  have o : gx_h2.1 = 75 := gx_h75
  have o2 := gs_slots
  exact ⟨⟨ow0, fun _ => 0, 0, [], [], [], [], 3, 30, 10, 0, 0, 0, [], [], gs_cI, gs_mI, gs_ok, ⟨List.Perm.refl _, List.Pairwise.nil⟩, List.Pairwise.nil, Nat.zero_le _⟩, ⟨by omega, by omega⟩, fr_start, ⟨by decide, by decide, by decide, by omega⟩, ⟨_, gs_2⟩, fun _ => 0, rfl⟩
