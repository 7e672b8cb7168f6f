/-! ### The judge's places in the pure heap: judge 7, facts 8, the rows' array 9, the rows 10 to 40, values 44, stack 45 -/
def js (g : ag_H) (re : Int32) (rd : Int32) (un : Int32) (kn : Nat) (rf : Int32) (tr : Int32) (he : Int32) (mi : Int32) (fa : Int32) (sz : Nat) (ov : Int32) (room : Nat) (rv : Nat → Option Nat) (rw : Nat → Nat → Int32) (va : Nat → Int32) (sk : Nat → Int32) : ag_H := (g.1, g.2.1, fun q => if q = 7 then .inr (3, [.ref 8, .ref 41, .ref 43, .int re, .int rd, .int un, .ref 44, .ref 45, .int (Int32.ofNat kn), .int rf, .int tr, .int he, .int mi, .int fa]) else if q = 8 then .inr (4, [.ref 9, .int (Int32.ofNat sz), .int ov, .int (Int32.ofNat room)]) else if q = 9 then .inl (6, 31, .inr (.inr (.inr (.inr rv)))) else if q = 44 then .inl (0, 8, .inl va) else if q = 45 then .inl (0, 40, .inl sk) else if 10 ≤ q ∧ q ≤ 40 then .inl (0, 5, .inl (rw q)) else g.2.2 q)
section JS
variable {g : ag_H} {re : Int32} {rd : Int32} {un : Int32} {kn : Nat} {rf : Int32} {tr : Int32} {he : Int32} {mi : Int32} {fa : Int32} {sz : Nat} {ov : Int32} {room : Nat} {rv : Nat → Option Nat} {rw : Nat → Nat → Int32} {va : Nat → Int32} {sk : Nat → Int32}
theorem js_1 : (js g re rd un kn rf tr he mi fa sz ov room rv rw va sk).1 = g.1 := rfl
theorem js_2 : (js g re rd un kn rf tr he mi fa sz ov room rv rw va sk).2.1 = g.2.1 := rfl
theorem js_at7 (o : 75 ≤ g.1) : ag_at (js g re rd un kn rf tr he mi fa sz ov room rv rw va sk) (.ref 7) = some (.inr (3, [.ref 8, .ref 41, .ref 43, .int re, .int rd, .int un, .ref 44, .ref 45, .int (Int32.ofNat kn), .int rf, .int tr, .int he, .int mi, .int fa])) := pu_at (by decide) (show 7 < g.1 by omega) rfl
theorem js_at8 (o : 75 ≤ g.1) : ag_at (js g re rd un kn rf tr he mi fa sz ov room rv rw va sk) (.ref 8) = some (.inr (4, [.ref 9, .int (Int32.ofNat sz), .int ov, .int (Int32.ofNat room)])) := pu_at (by decide) (show 8 < g.1 by omega) rfl
theorem js_at9 (o : 75 ≤ g.1) : ag_at (js g re rd un kn rf tr he mi fa sz ov room rv rw va sk) (.ref 9) = some (.inl (6, 31, .inr (.inr (.inr (.inr rv))))) := pu_at (by decide) (show 9 < g.1 by omega) rfl
theorem js_at44 (o : 75 ≤ g.1) : ag_at (js g re rd un kn rf tr he mi fa sz ov room rv rw va sk) (.ref 44) = some (.inl (0, 8, .inl va)) := pu_at (by decide) (show 44 < g.1 by omega) rfl
theorem js_at45 (o : 75 ≤ g.1) : ag_at (js g re rd un kn rf tr he mi fa sz ov room rv rw va sk) (.ref 45) = some (.inl (0, 40, .inl sk)) := pu_at (by decide) (show 45 < g.1 by omega) rfl
theorem js_row (o : 75 ≤ g.1) {q : Nat} (h1 : 10 ≤ q) (h2 : q ≤ 40) : ag_at (js g re rd un kn rf tr he mi fa sz ov room rv rw va sk) (.ref q) = some (.inl (0, 5, .inl (rw q))) := pu_at (by omega) (show q < g.1 by omega) (by show (if q = 7 then _ else if q = 8 then _ else if q = 9 then _ else if q = 44 then _ else if q = 45 then _ else if 10 ≤ q ∧ q ≤ 40 then _ else _) = _; rw [if_neg (by omega), if_neg (by omega), if_neg (by omega), if_neg (by omega), if_neg (by omega), if_pos ⟨h1, h2⟩])
theorem js_rc7 (o : 75 ≤ g.1) : ag_rc (js g re rd un kn rf tr he mi fa sz ov room rv rw va sk) (some 7) 3 = some 7 := pu_rc (js_at7 o)
theorem js_rc8 (o : 75 ≤ g.1) : ag_rc (js g re rd un kn rf tr he mi fa sz ov room rv rw va sk) (some 8) 4 = some 8 := pu_rc (js_at8 o)
theorem js_g7_3 (o : 75 ≤ g.1) : ag_gi (js g re rd un kn rf tr he mi fa sz ov room rv rw va sk) (some 7) 3 3 = some (re) := pu_gi (js_at7 o) rfl
theorem js_g7_4 (o : 75 ≤ g.1) : ag_gi (js g re rd un kn rf tr he mi fa sz ov room rv rw va sk) (some 7) 3 4 = some (rd) := pu_gi (js_at7 o) rfl
theorem js_g7_5 (o : 75 ≤ g.1) : ag_gi (js g re rd un kn rf tr he mi fa sz ov room rv rw va sk) (some 7) 3 5 = some (un) := pu_gi (js_at7 o) rfl
theorem js_g7_8 (o : 75 ≤ g.1) : ag_gi (js g re rd un kn rf tr he mi fa sz ov room rv rw va sk) (some 7) 3 8 = some (Int32.ofNat kn) := pu_gi (js_at7 o) rfl
theorem js_g7_9 (o : 75 ≤ g.1) : ag_gi (js g re rd un kn rf tr he mi fa sz ov room rv rw va sk) (some 7) 3 9 = some (rf) := pu_gi (js_at7 o) rfl
theorem js_g7_10 (o : 75 ≤ g.1) : ag_gi (js g re rd un kn rf tr he mi fa sz ov room rv rw va sk) (some 7) 3 10 = some (tr) := pu_gi (js_at7 o) rfl
theorem js_g7_11 (o : 75 ≤ g.1) : ag_gi (js g re rd un kn rf tr he mi fa sz ov room rv rw va sk) (some 7) 3 11 = some (he) := pu_gi (js_at7 o) rfl
theorem js_g7_12 (o : 75 ≤ g.1) : ag_gi (js g re rd un kn rf tr he mi fa sz ov room rv rw va sk) (some 7) 3 12 = some (mi) := pu_gi (js_at7 o) rfl
theorem js_g7_13 (o : 75 ≤ g.1) : ag_gi (js g re rd un kn rf tr he mi fa sz ov room rv rw va sk) (some 7) 3 13 = some (fa) := pu_gi (js_at7 o) rfl
theorem js_r7_0 (o : 75 ≤ g.1) : ag_gr (js g re rd un kn rf tr he mi fa sz ov room rv rw va sk) (some 7) 3 0 = some (some 8) := pu_gr (js_at7 o) rfl
theorem js_r7_1 (o : 75 ≤ g.1) : ag_gr (js g re rd un kn rf tr he mi fa sz ov room rv rw va sk) (some 7) 3 1 = some (some 41) := pu_gr (js_at7 o) rfl
theorem js_r7_2 (o : 75 ≤ g.1) : ag_gr (js g re rd un kn rf tr he mi fa sz ov room rv rw va sk) (some 7) 3 2 = some (some 43) := pu_gr (js_at7 o) rfl
theorem js_r7_6 (o : 75 ≤ g.1) : ag_gr (js g re rd un kn rf tr he mi fa sz ov room rv rw va sk) (some 7) 3 6 = some (some 44) := pu_gr (js_at7 o) rfl
theorem js_r7_7 (o : 75 ≤ g.1) : ag_gr (js g re rd un kn rf tr he mi fa sz ov room rv rw va sk) (some 7) 3 7 = some (some 45) := pu_gr (js_at7 o) rfl
theorem js_g8_1 (o : 75 ≤ g.1) : ag_gi (js g re rd un kn rf tr he mi fa sz ov room rv rw va sk) (some 8) 4 1 = some (Int32.ofNat sz) := pu_gi (js_at8 o) rfl
theorem js_g8_2 (o : 75 ≤ g.1) : ag_gi (js g re rd un kn rf tr he mi fa sz ov room rv rw va sk) (some 8) 4 2 = some (ov) := pu_gi (js_at8 o) rfl
theorem js_g8_3 (o : 75 ≤ g.1) : ag_gi (js g re rd un kn rf tr he mi fa sz ov room rv rw va sk) (some 8) 4 3 = some (Int32.ofNat room) := pu_gi (js_at8 o) rfl
theorem js_r8_0 (o : 75 ≤ g.1) : ag_gr (js g re rd un kn rf tr he mi fa sz ov room rv rw va sk) (some 8) 4 0 = some (some 9) := pu_gr (js_at8 o) rfl
theorem js_va (o : 75 ≤ g.1) : ag_ai (js g re rd un kn rf tr he mi fa sz ov room rv rw va sk) 0 (some 44) = some (8, va) := pu_ai (js_at44 o)
theorem js_sk (o : 75 ≤ g.1) : ag_ai (js g re rd un kn rf tr he mi fa sz ov room rv rw va sk) 0 (some 45) = some (40, sk) := pu_ai (js_at45 o)
theorem js_ao (o : 75 ≤ g.1) : ag_ao (js g re rd un kn rf tr he mi fa sz ov room rv rw va sk) (some 9) = some (31, rv) := by
  unfold ag_ao
  have : ag_at (js g re rd un kn rf tr he mi fa sz ov room rv rw va sk) (ag_rf (some 9)) = some (.inl (6, 31, .inr (.inr (.inr (.inr rv))))) := js_at9 o
  simp [this]
theorem js_rwi (o : 75 ≤ g.1) {q : Nat} (h1 : 10 ≤ q) (h2 : q ≤ 40) : ag_ai (js g re rd un kn rf tr he mi fa sz ov room rv rw va sk) 0 (some q) = some (5, rw q) := pu_ai (js_row o h1 h2)
theorem js_up7 {re' rd' un' rf' tr' he' mi' fa' : Int32} {kn' : Nat} : ag_up (js g re rd un kn rf tr he mi fa sz ov room rv rw va sk) 7 (.inr (3, [.ref 8, .ref 41, .ref 43, .int re', .int rd', .int un', .ref 44, .ref 45, .int (Int32.ofNat kn'), .int rf', .int tr', .int he', .int mi', .int fa'])) = js g re' rd' un' kn' rf' tr' he' mi' fa' sz ov room rv rw va sk := by
  refine rs_ext rfl rfl fun q => ?_
  show (if q = 7 then .inr (3, [.ref 8, .ref 41, .ref 43, .int re', .int rd', .int un', .ref 44, .ref 45, .int (Int32.ofNat kn'), .int rf', .int tr', .int he', .int mi', .int fa']) else (if q = 7 then .inr (3, [.ref 8, .ref 41, .ref 43, .int re, .int rd, .int un, .ref 44, .ref 45, .int (Int32.ofNat kn), .int rf, .int tr, .int he, .int mi, .int fa]) else if q = 8 then .inr (4, [.ref 9, .int (Int32.ofNat sz), .int ov, .int (Int32.ofNat room)]) else if q = 9 then .inl (6, 31, .inr (.inr (.inr (.inr rv)))) else if q = 44 then .inl (0, 8, .inl va) else if q = 45 then .inl (0, 40, .inl sk) else if 10 ≤ q ∧ q ≤ 40 then .inl (0, 5, .inl (rw q)) else g.2.2 q)) = (if q = 7 then .inr (3, [.ref 8, .ref 41, .ref 43, .int re', .int rd', .int un', .ref 44, .ref 45, .int (Int32.ofNat kn'), .int rf', .int tr', .int he', .int mi', .int fa']) else if q = 8 then .inr (4, [.ref 9, .int (Int32.ofNat sz), .int ov, .int (Int32.ofNat room)]) else if q = 9 then .inl (6, 31, .inr (.inr (.inr (.inr rv)))) else if q = 44 then .inl (0, 8, .inl va) else if q = 45 then .inl (0, 40, .inl sk) else if 10 ≤ q ∧ q ≤ 40 then .inl (0, 5, .inl (rw q)) else g.2.2 q)
  by_cases e : q = 7
  · subst e; rfl
  · simp only [if_neg e]
theorem js_up8 {sz' room' : Nat} {ov' : Int32} : ag_up (js g re rd un kn rf tr he mi fa sz ov room rv rw va sk) 8 (.inr (4, [.ref 9, .int (Int32.ofNat sz'), .int ov', .int (Int32.ofNat room')])) = js g re rd un kn rf tr he mi fa sz' ov' room' rv rw va sk := by
  refine rs_ext rfl rfl fun q => ?_
  show (if q = 8 then .inr (4, [.ref 9, .int (Int32.ofNat sz'), .int ov', .int (Int32.ofNat room')]) else (if q = 7 then .inr (3, [.ref 8, .ref 41, .ref 43, .int re, .int rd, .int un, .ref 44, .ref 45, .int (Int32.ofNat kn), .int rf, .int tr, .int he, .int mi, .int fa]) else if q = 8 then .inr (4, [.ref 9, .int (Int32.ofNat sz), .int ov, .int (Int32.ofNat room)]) else if q = 9 then .inl (6, 31, .inr (.inr (.inr (.inr rv)))) else if q = 44 then .inl (0, 8, .inl va) else if q = 45 then .inl (0, 40, .inl sk) else if 10 ≤ q ∧ q ≤ 40 then .inl (0, 5, .inl (rw q)) else g.2.2 q)) = (if q = 7 then .inr (3, [.ref 8, .ref 41, .ref 43, .int re, .int rd, .int un, .ref 44, .ref 45, .int (Int32.ofNat kn), .int rf, .int tr, .int he, .int mi, .int fa]) else if q = 8 then .inr (4, [.ref 9, .int (Int32.ofNat sz'), .int ov', .int (Int32.ofNat room')]) else if q = 9 then .inl (6, 31, .inr (.inr (.inr (.inr rv)))) else if q = 44 then .inl (0, 8, .inl va) else if q = 45 then .inl (0, 40, .inl sk) else if 10 ≤ q ∧ q ≤ 40 then .inl (0, 5, .inl (rw q)) else g.2.2 q)
  by_cases e : q = 8
  · subst e; rfl
  · simp only [if_neg e]
theorem js_up9 {rv' : Nat → Option Nat} : ag_up (js g re rd un kn rf tr he mi fa sz ov room rv rw va sk) 9 (.inl (6, 31, .inr (.inr (.inr (.inr rv'))))) = js g re rd un kn rf tr he mi fa sz ov room rv' rw va sk := by
  refine rs_ext rfl rfl fun q => ?_
  show (if q = 9 then .inl (6, 31, .inr (.inr (.inr (.inr rv')))) else (if q = 7 then .inr (3, [.ref 8, .ref 41, .ref 43, .int re, .int rd, .int un, .ref 44, .ref 45, .int (Int32.ofNat kn), .int rf, .int tr, .int he, .int mi, .int fa]) else if q = 8 then .inr (4, [.ref 9, .int (Int32.ofNat sz), .int ov, .int (Int32.ofNat room)]) else if q = 9 then .inl (6, 31, .inr (.inr (.inr (.inr rv)))) else if q = 44 then .inl (0, 8, .inl va) else if q = 45 then .inl (0, 40, .inl sk) else if 10 ≤ q ∧ q ≤ 40 then .inl (0, 5, .inl (rw q)) else g.2.2 q)) = (if q = 7 then .inr (3, [.ref 8, .ref 41, .ref 43, .int re, .int rd, .int un, .ref 44, .ref 45, .int (Int32.ofNat kn), .int rf, .int tr, .int he, .int mi, .int fa]) else if q = 8 then .inr (4, [.ref 9, .int (Int32.ofNat sz), .int ov, .int (Int32.ofNat room)]) else if q = 9 then .inl (6, 31, .inr (.inr (.inr (.inr rv')))) else if q = 44 then .inl (0, 8, .inl va) else if q = 45 then .inl (0, 40, .inl sk) else if 10 ≤ q ∧ q ≤ 40 then .inl (0, 5, .inl (rw q)) else g.2.2 q)
  by_cases e : q = 9
  · subst e; rfl
  · simp only [if_neg e]
theorem js_up44 {va' : Nat → Int32} : ag_up (js g re rd un kn rf tr he mi fa sz ov room rv rw va sk) 44 (.inl (0, 8, .inl va')) = js g re rd un kn rf tr he mi fa sz ov room rv rw va' sk := by
  refine rs_ext rfl rfl fun q => ?_
  show (if q = 44 then .inl (0, 8, .inl va') else (if q = 7 then .inr (3, [.ref 8, .ref 41, .ref 43, .int re, .int rd, .int un, .ref 44, .ref 45, .int (Int32.ofNat kn), .int rf, .int tr, .int he, .int mi, .int fa]) else if q = 8 then .inr (4, [.ref 9, .int (Int32.ofNat sz), .int ov, .int (Int32.ofNat room)]) else if q = 9 then .inl (6, 31, .inr (.inr (.inr (.inr rv)))) else if q = 44 then .inl (0, 8, .inl va) else if q = 45 then .inl (0, 40, .inl sk) else if 10 ≤ q ∧ q ≤ 40 then .inl (0, 5, .inl (rw q)) else g.2.2 q)) = (if q = 7 then .inr (3, [.ref 8, .ref 41, .ref 43, .int re, .int rd, .int un, .ref 44, .ref 45, .int (Int32.ofNat kn), .int rf, .int tr, .int he, .int mi, .int fa]) else if q = 8 then .inr (4, [.ref 9, .int (Int32.ofNat sz), .int ov, .int (Int32.ofNat room)]) else if q = 9 then .inl (6, 31, .inr (.inr (.inr (.inr rv)))) else if q = 44 then .inl (0, 8, .inl va') else if q = 45 then .inl (0, 40, .inl sk) else if 10 ≤ q ∧ q ≤ 40 then .inl (0, 5, .inl (rw q)) else g.2.2 q)
  by_cases e : q = 44
  · subst e; rfl
  · simp only [if_neg e]
theorem js_up45 {sk' : Nat → Int32} : ag_up (js g re rd un kn rf tr he mi fa sz ov room rv rw va sk) 45 (.inl (0, 40, .inl sk')) = js g re rd un kn rf tr he mi fa sz ov room rv rw va sk' := by
  refine rs_ext rfl rfl fun q => ?_
  show (if q = 45 then .inl (0, 40, .inl sk') else (if q = 7 then .inr (3, [.ref 8, .ref 41, .ref 43, .int re, .int rd, .int un, .ref 44, .ref 45, .int (Int32.ofNat kn), .int rf, .int tr, .int he, .int mi, .int fa]) else if q = 8 then .inr (4, [.ref 9, .int (Int32.ofNat sz), .int ov, .int (Int32.ofNat room)]) else if q = 9 then .inl (6, 31, .inr (.inr (.inr (.inr rv)))) else if q = 44 then .inl (0, 8, .inl va) else if q = 45 then .inl (0, 40, .inl sk) else if 10 ≤ q ∧ q ≤ 40 then .inl (0, 5, .inl (rw q)) else g.2.2 q)) = (if q = 7 then .inr (3, [.ref 8, .ref 41, .ref 43, .int re, .int rd, .int un, .ref 44, .ref 45, .int (Int32.ofNat kn), .int rf, .int tr, .int he, .int mi, .int fa]) else if q = 8 then .inr (4, [.ref 9, .int (Int32.ofNat sz), .int ov, .int (Int32.ofNat room)]) else if q = 9 then .inl (6, 31, .inr (.inr (.inr (.inr rv)))) else if q = 44 then .inl (0, 8, .inl va) else if q = 45 then .inl (0, 40, .inl sk') else if 10 ≤ q ∧ q ≤ 40 then .inl (0, 5, .inl (rw q)) else g.2.2 q)
  by_cases e : q = 45
  · subst e; rfl
  · simp only [if_neg e]
theorem js_uprow {a : Nat} (h1 : 10 ≤ a) (h2 : a ≤ 40) {f : Nat → Int32} : ag_up (js g re rd un kn rf tr he mi fa sz ov room rv rw va sk) a (.inl (0, 5, .inl f)) = js g re rd un kn rf tr he mi fa sz ov room rv (fun q => if q = a then f else rw q) va sk := by
  refine rs_ext rfl rfl fun q => ?_
  show (if q = a then (Sum.inl (0, 5, Sum.inl f) : ag_C) else (if q = 7 then .inr (3, [.ref 8, .ref 41, .ref 43, .int re, .int rd, .int un, .ref 44, .ref 45, .int (Int32.ofNat kn), .int rf, .int tr, .int he, .int mi, .int fa]) else if q = 8 then .inr (4, [.ref 9, .int (Int32.ofNat sz), .int ov, .int (Int32.ofNat room)]) else if q = 9 then .inl (6, 31, .inr (.inr (.inr (.inr rv)))) else if q = 44 then .inl (0, 8, .inl va) else if q = 45 then .inl (0, 40, .inl sk) else if 10 ≤ q ∧ q ≤ 40 then .inl (0, 5, .inl (rw q)) else g.2.2 q)) = (if q = 7 then .inr (3, [.ref 8, .ref 41, .ref 43, .int re, .int rd, .int un, .ref 44, .ref 45, .int (Int32.ofNat kn), .int rf, .int tr, .int he, .int mi, .int fa]) else if q = 8 then .inr (4, [.ref 9, .int (Int32.ofNat sz), .int ov, .int (Int32.ofNat room)]) else if q = 9 then .inl (6, 31, .inr (.inr (.inr (.inr rv)))) else if q = 44 then .inl (0, 8, .inl va) else if q = 45 then .inl (0, 40, .inl sk) else if 10 ≤ q ∧ q ≤ 40 then .inl (0, 5, .inl (if q = a then f else rw q)) else g.2.2 q)
  by_cases e : q = a
  · subst e
    rw [if_pos rfl, if_neg (by omega), if_neg (by omega), if_neg (by omega), if_neg (by omega), if_neg (by omega), if_pos ⟨h1, h2⟩, if_pos rfl]
  · simp only [if_neg e]
theorem js_p7_3 (o : 75 ≤ g.1) {x : Int32} : ag_pf (js g re rd un kn rf tr he mi fa sz ov room rv rw va sk) (ag_rf (some 7)) 3 3 .int (.int x) = some (js g x rd un kn rf tr he mi fa sz ov room rv rw va sk) := by
  rw [pu_pf (js_at7 o) (Nat.le_of_ble_eq_true rfl) rfl rfl]
  exact congrArg some js_up7
theorem js_p7_4 (o : 75 ≤ g.1) {x : Int32} : ag_pf (js g re rd un kn rf tr he mi fa sz ov room rv rw va sk) (ag_rf (some 7)) 3 4 .int (.int x) = some (js g re x un kn rf tr he mi fa sz ov room rv rw va sk) := by
  rw [pu_pf (js_at7 o) (Nat.le_of_ble_eq_true rfl) rfl rfl]
  exact congrArg some js_up7
theorem js_p7_5 (o : 75 ≤ g.1) {x : Int32} : ag_pf (js g re rd un kn rf tr he mi fa sz ov room rv rw va sk) (ag_rf (some 7)) 3 5 .int (.int x) = some (js g re rd x kn rf tr he mi fa sz ov room rv rw va sk) := by
  rw [pu_pf (js_at7 o) (Nat.le_of_ble_eq_true rfl) rfl rfl]
  exact congrArg some js_up7
theorem js_p7_8 (o : 75 ≤ g.1) {x : Nat} : ag_pf (js g re rd un kn rf tr he mi fa sz ov room rv rw va sk) (ag_rf (some 7)) 3 8 .int (.int (Int32.ofNat x)) = some (js g re rd un x rf tr he mi fa sz ov room rv rw va sk) := by
  rw [pu_pf (js_at7 o) (Nat.le_of_ble_eq_true rfl) rfl rfl]
  exact congrArg some js_up7
theorem js_p7_9 (o : 75 ≤ g.1) {x : Int32} (hx : md_01 x = true) : ag_pf (js g re rd un kn rf tr he mi fa sz ov room rv rw va sk) (ag_rf (some 7)) 3 9 .boolean (.int x) = some (js g re rd un kn x tr he mi fa sz ov room rv rw va sk) := by
  rw [pu_pf (js_at7 o) (Nat.le_of_ble_eq_true rfl) (md_01n hx) hx]
  exact congrArg some js_up7
theorem js_p7_10 (o : 75 ≤ g.1) {x : Int32} : ag_pf (js g re rd un kn rf tr he mi fa sz ov room rv rw va sk) (ag_rf (some 7)) 3 10 .int (.int x) = some (js g re rd un kn rf x he mi fa sz ov room rv rw va sk) := by
  rw [pu_pf (js_at7 o) (Nat.le_of_ble_eq_true rfl) rfl rfl]
  exact congrArg some js_up7
theorem js_p7_11 (o : 75 ≤ g.1) {x : Int32} (hx : md_01 x = true) : ag_pf (js g re rd un kn rf tr he mi fa sz ov room rv rw va sk) (ag_rf (some 7)) 3 11 .boolean (.int x) = some (js g re rd un kn rf tr x mi fa sz ov room rv rw va sk) := by
  rw [pu_pf (js_at7 o) (Nat.le_of_ble_eq_true rfl) (md_01n hx) hx]
  exact congrArg some js_up7
theorem js_p7_12 (o : 75 ≤ g.1) {x : Int32} (hx : md_01 x = true) : ag_pf (js g re rd un kn rf tr he mi fa sz ov room rv rw va sk) (ag_rf (some 7)) 3 12 .boolean (.int x) = some (js g re rd un kn rf tr he x fa sz ov room rv rw va sk) := by
  rw [pu_pf (js_at7 o) (Nat.le_of_ble_eq_true rfl) (md_01n hx) hx]
  exact congrArg some js_up7
theorem js_p7_13 (o : 75 ≤ g.1) {x : Int32} (hx : md_01 x = true) : ag_pf (js g re rd un kn rf tr he mi fa sz ov room rv rw va sk) (ag_rf (some 7)) 3 13 .boolean (.int x) = some (js g re rd un kn rf tr he mi x sz ov room rv rw va sk) := by
  rw [pu_pf (js_at7 o) (Nat.le_of_ble_eq_true rfl) (md_01n hx) hx]
  exact congrArg some js_up7
theorem js_p8_1 (o : 75 ≤ g.1) {x : Nat} : ag_pf (js g re rd un kn rf tr he mi fa sz ov room rv rw va sk) (ag_rf (some 8)) 4 1 .int (.int (Int32.ofNat x)) = some (js g re rd un kn rf tr he mi fa x ov room rv rw va sk) := by
  rw [pu_pf (js_at8 o) (Nat.le_of_ble_eq_true rfl) rfl rfl]
  exact congrArg some js_up8
theorem js_p8_2 (o : 75 ≤ g.1) {x : Int32} (hx : md_01 x = true) : ag_pf (js g re rd un kn rf tr he mi fa sz ov room rv rw va sk) (ag_rf (some 8)) 4 2 .boolean (.int x) = some (js g re rd un kn rf tr he mi fa sz x room rv rw va sk) := by
  rw [pu_pf (js_at8 o) (Nat.le_of_ble_eq_true rfl) (md_01n hx) hx]
  exact congrArg some js_up8
theorem js_p8_3 (o : 75 ≤ g.1) {x : Nat} : ag_pf (js g re rd un kn rf tr he mi fa sz ov room rv rw va sk) (ag_rf (some 8)) 4 3 .int (.int (Int32.ofNat x)) = some (js g re rd un kn rf tr he mi fa sz ov x rv rw va sk) := by
  rw [pu_pf (js_at8 o) (Nat.le_of_ble_eq_true rfl) rfl rfl]
  exact congrArg some js_up8
theorem js_big {q : Nat} (h : 46 ≤ q ∨ q < 7 ∨ (41 ≤ q ∧ q ≤ 43)) : (js g re rd un kn rf tr he mi fa sz ov room rv rw va sk).2.2 q = g.2.2 q := by
  show (if q = 7 then .inr (3, [.ref 8, .ref 41, .ref 43, .int re, .int rd, .int un, .ref 44, .ref 45, .int (Int32.ofNat kn), .int rf, .int tr, .int he, .int mi, .int fa]) else if q = 8 then .inr (4, [.ref 9, .int (Int32.ofNat sz), .int ov, .int (Int32.ofNat room)]) else if q = 9 then .inl (6, 31, .inr (.inr (.inr (.inr rv)))) else if q = 44 then .inl (0, 8, .inl va) else if q = 45 then .inl (0, 40, .inl sk) else if 10 ≤ q ∧ q ≤ 40 then .inl (0, 5, .inl (rw q)) else g.2.2 q) = _
  rw [if_neg (by omega), if_neg (by omega), if_neg (by omega), if_neg (by omega), if_neg (by omega), if_neg (by omega)]
end JS
