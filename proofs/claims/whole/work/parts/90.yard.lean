/-! ### The other way to read a sum: with a stack of signs; both ways say the same -/
def y_tl (x : Nat) : Bool := x == 42 || x == 47
def y_fl (t : Bool) : List Nat → List Int → List Nat × List Int
  | [], l => ([], l)
  | x :: σ, l => if x = 40 ∨ (t = true ∧ y_tl x = false) then (x :: σ, l) else y_fl t σ (l ++ [-(x : Int)])
def y_op (c : Nat → Nat) (n p : Nat) : Bool := g_h c n p == 43 || g_h c n p == 45 || g_h c n p == 47 || (g_h c n p == 42 && !(g_ls c n p))
def y_run (c : Nat → Nat) (n : Nat) : Nat → Nat → Bool → List Nat → Nat → List Int → Int32 → Option g_E
  | 0, _, _, _, _, _, _ => none
  | d + 1, op, true, σ, p, l, m => if g_h c n p = 40 then (if 4 ≤ op then none else y_run c n d (op + 1) true (40 :: σ) (g_s c n p + 1) l m)
    else if 65 ≤ g_h c n p ∧ g_h c n p ≤ 72 then y_run c n d op false σ (g_s c n p + 1) (l ++ [1048576 + ((g_h c n p - 65 : Nat) : Int)]) (m ||| g_bit (1048576 + ((g_h c n p - 65 : Nat) : Int)))
    else (g_d c n (g_s c n p)).bind fun r => y_run c n d op false σ r.2 (l ++ [(r.1 : Int)]) m
  | d + 1, op, false, σ, p, l, m => if g_h c n p = 41 ∧ 0 < op then y_run c n d (op - 1) false (y_fl false σ l).1.tail (g_s c n p + 1) (y_fl false σ l).2 m
    else if y_op c n p = true then y_run c n d op true (g_h c n p :: (y_fl (y_tl (g_h c n p)) σ l).1) (g_s c n p + 1) (y_fl (y_tl (g_h c n p)) σ l).2 m
    else if 0 < op then none else some (g_s c n p, (y_fl false σ l).2, m)
theorem y_op_ne {c : Nat → Nat} {n p : Nat} (h : y_op c n p = true) : g_h c n p ≠ 0 := by
  intro e
  unfold y_op at h
  rw [e] at h
  cases h
theorem y_mono {c : Nat → Nat} {n : Nat} : ∀ (d d' op : Nat) (w : Bool) (σ : List Nat) (p : Nat) (l : List Int) (m : Int32), n + 1 ≤ p + d → n + 1 ≤ p + d' → p ≤ n → y_run c n d op w σ p l m = y_run c n d' op w σ p l m
  | 0, d', op, w, σ, p, l, m, h1, h2, hp => absurd h1 (by omega)
  | d + 1, 0, op, w, σ, p, l, m, h1, h2, hp => absurd h2 (by omega)
  | d + 1, d' + 1, op, true, σ, p, l, m, h1, h2, hp => by
    have hs := g_s_le (c := c) hp
    unfold y_run
    by_cases e1 : g_h c n p = 40
    · have hlt := g_h_lt (c := c) (n := n) (p := p) (by omega)
      rw [if_pos e1, if_pos e1, y_mono d d' _ _ _ (g_s c n p + 1) _ _ (by omega) (by omega) (by omega)]
    · rw [if_neg e1, if_neg e1]
      by_cases e2 : 65 ≤ g_h c n p ∧ g_h c n p ≤ 72
      · have hlt := g_h_lt (c := c) (n := n) (p := p) (by omega)
        rw [if_pos e2, if_pos e2, y_mono d d' _ _ _ (g_s c n p + 1) _ _ (by omega) (by omega) (by omega)]
      · rw [if_neg e2, if_neg e2]
        cases e3 : g_d c n (g_s c n p) with
        | none => rfl
        | some r =>
          have hd := g_d_ok hs.2 (show _ = some (r.1, r.2) from e3)
          rw [Option.bind_some, Option.bind_some, y_mono d d' _ _ _ r.2 _ _ (by omega) (by omega) (by omega)]
  | d + 1, d' + 1, op, false, σ, p, l, m, h1, h2, hp => by
    have hs := g_s_le (c := c) hp
    unfold y_run
    by_cases e1 : g_h c n p = 41 ∧ 0 < op
    · have hlt := g_h_lt (c := c) (n := n) (p := p) (by omega)
      rw [if_pos e1, if_pos e1, y_mono d d' _ _ _ (g_s c n p + 1) _ _ (by omega) (by omega) (by omega)]
    · rw [if_neg e1, if_neg e1]
      by_cases e2 : y_op c n p = true
      · have hlt := g_h_lt (c := c) (n := n) (p := p) (y_op_ne e2)
        rw [if_pos e2, if_pos e2, y_mono d d' _ _ _ (g_s c n p + 1) _ _ (by omega) (by omega) (by omega)]
      · rw [if_neg e2, if_neg e2]
def y_go (c : Nat → Nat) (n op : Nat) (w : Bool) (σ : List Nat) (p : Nat) (l : List Int) (m : Int32) : Option g_E := y_run c n (n + 1 - p) op w σ p l m
section YD
variable {c : Nat → Nat} {n op p : Nat} {σ ρ : List Nat} {l : List Int} {m : Int32}
theorem y_goT (hp : p ≤ n) : y_go c n op true σ p l m = if g_h c n p = 40 then (if 4 ≤ op then none else y_go c n (op + 1) true (40 :: σ) (g_s c n p + 1) l m)
    else if 65 ≤ g_h c n p ∧ g_h c n p ≤ 72 then y_go c n op false σ (g_s c n p + 1) (l ++ [1048576 + ((g_h c n p - 65 : Nat) : Int)]) (m ||| g_bit (1048576 + ((g_h c n p - 65 : Nat) : Int)))
    else (g_d c n (g_s c n p)).bind fun r => y_go c n op false σ r.2 (l ++ [(r.1 : Int)]) m := by
  have hs := g_s_le (c := c) hp
  unfold y_go
  rw [show n + 1 - p = (n - p) + 1 by omega]
  conv => lhs; unfold y_run
  by_cases e1 : g_h c n p = 40
  · have hlt := g_h_lt (c := c) (n := n) (p := p) (by omega)
    rw [if_pos e1, if_pos e1, y_mono (n - p) (n + 1 - (g_s c n p + 1)) _ _ _ (g_s c n p + 1) _ _ (by omega) (by omega) (by omega)]
  · rw [if_neg e1, if_neg e1]
    by_cases e2 : 65 ≤ g_h c n p ∧ g_h c n p ≤ 72
    · have hlt := g_h_lt (c := c) (n := n) (p := p) (by omega)
      rw [if_pos e2, if_pos e2, y_mono (n - p) (n + 1 - (g_s c n p + 1)) _ _ _ (g_s c n p + 1) _ _ (by omega) (by omega) (by omega)]
    · rw [if_neg e2, if_neg e2]
      cases e3 : g_d c n (g_s c n p) with
      | none => rfl
      | some r =>
        have hd := g_d_ok hs.2 (show _ = some (r.1, r.2) from e3)
        rw [Option.bind_some, Option.bind_some, y_mono (n - p) (n + 1 - r.2) _ _ _ r.2 _ _ (by omega) (by omega) (by omega)]
theorem y_goF (hp : p ≤ n) : y_go c n op false σ p l m = if g_h c n p = 41 ∧ 0 < op then y_go c n (op - 1) false (y_fl false σ l).1.tail (g_s c n p + 1) (y_fl false σ l).2 m
    else if y_op c n p = true then y_go c n op true (g_h c n p :: (y_fl (y_tl (g_h c n p)) σ l).1) (g_s c n p + 1) (y_fl (y_tl (g_h c n p)) σ l).2 m
    else if 0 < op then none else some (g_s c n p, (y_fl false σ l).2, m) := by
  have hs := g_s_le (c := c) hp
  unfold y_go
  rw [show n + 1 - p = (n - p) + 1 by omega]
  conv => lhs; unfold y_run
  by_cases e1 : g_h c n p = 41 ∧ 0 < op
  · have hlt := g_h_lt (c := c) (n := n) (p := p) (by omega)
    rw [if_pos e1, if_pos e1, y_mono (n - p) (n + 1 - (g_s c n p + 1)) _ _ _ (g_s c n p + 1) _ _ (by omega) (by omega) (by omega)]
  · rw [if_neg e1, if_neg e1]
    by_cases e2 : y_op c n p = true
    · have hlt := g_h_lt (c := c) (n := n) (p := p) (y_op_ne e2)
      rw [if_pos e2, if_pos e2, y_mono (n - p) (n + 1 - (g_s c n p + 1)) _ _ _ (g_s c n p + 1) _ _ (by omega) (by omega) (by omega)]
    · rw [if_neg e2, if_neg e2]
theorem g_ls_s (hp : p ≤ n) : g_ls c n (g_s c n p) = g_ls c n p := by unfold g_ls; rw [g_h_s hp, g_s_s hp]
theorem y_op_s (hp : p ≤ n) : y_op c n (g_s c n p) = y_op c n p := by unfold y_op; rw [g_h_s hp, g_ls_s hp]
theorem y_goFs (hp : p ≤ n) : y_go c n op false σ (g_s c n p) l m = y_go c n op false σ p l m := by
  rw [y_goF hp, y_goF (g_s_le hp).2, g_h_s hp, g_s_s hp, y_op_s hp]
theorem y_flT {x : Nat} (hx : y_tl x = true) (t : Bool) : y_fl t (x :: ρ) l = y_fl t ρ (l ++ [-(x : Int)]) := by
  refine if_neg ?_
  rintro (q | ⟨-, q⟩)
  · subst q; cases hx
  · rw [hx] at q; cases q
theorem y_flF {x : Nat} (hx : x ≠ 40) : y_fl false (x :: ρ) l = y_fl false ρ (l ++ [-(x : Int)]) := by
  refine if_neg ?_
  rintro (q | ⟨q, -⟩)
  · exact hx q
  · cases q
theorem y_popT {x : Nat} (hx : y_tl x = true) (hp : p ≤ n) : y_go c n op false (x :: ρ) p l m = y_go c n op false ρ p (l ++ [-(x : Int)]) m := by
  rw [y_goF hp, y_goF hp, y_flT hx, y_flT hx]
/-- no product goes on here -/
def y_nt (c : Nat → Nat) (n p : Nat) : Prop := g_h c n p ≠ 47 ∧ (g_h c n p = 42 → g_ls c n p = true)
theorem y_nt_op (h : y_nt c n p) (q : y_op c n p = true) : y_tl (g_h c n p) = false := by
  unfold y_op at q
  simp only [Bool.or_eq_true, Bool.and_eq_true, beq_iff_eq, Bool.not_eq_true'] at q
  unfold y_tl
  rcases q with ((q | q) | q) | q
  · rw [q]; rfl
  · rw [q]; rfl
  · exact absurd q h.1
  · rw [h.2 q.1] at q
    cases q.2
theorem y_popP {x : Nat} (hx : x ≠ 40) (h : y_nt c n p) (hp : p ≤ n) : y_go c n op false (x :: ρ) p l m = y_go c n op false ρ p (l ++ [-(x : Int)]) m := by
  rw [y_goF hp, y_goF hp, y_flF hx]
  by_cases e1 : g_h c n p = 41 ∧ 0 < op
  · rw [if_pos e1, if_pos e1]
  · rw [if_neg e1, if_neg e1]
    by_cases e2 : y_op c n p = true
    · rw [if_pos e2, if_pos e2, y_nt_op h e2, y_flF hx]
    · rw [if_neg e2, if_neg e2]
/-- what is asked of the sums within brackets -/
def y_sp (c : Nat → Nat) (n op : Nat) (K : Nat → List Int → Int32 → Option g_E) : Prop := ∀ q l m σ, q ≤ n → (∀ l', y_fl false σ l' = (σ, l')) → (y_go c n op true σ q l m = (K q l m).bind fun r => y_go c n op false σ r.1 r.2.1 r.2.2) ∧ ∀ r, K q l m = some r → y_op c n r.1 = false ∧ g_s c n r.1 = r.1
theorem y_fac {K : Nat → List Int → Int32 → Option g_E} (hB : g_bnd n K) (hK : op < 4 → y_sp c n (op + 1) K) (hp : p ≤ n) : y_go c n op true ρ p l m = (g_fac K c n op p l m).bind fun r => y_go c n op false ρ r.1 r.2.1 r.2.2 := by
  have hs := g_s_le (c := c) hp
  rw [y_goT hp]
  unfold g_fac
  by_cases e1 : g_h c n p = 40
  · have hlt := g_h_lt (c := c) (n := n) (p := p) (by omega)
    rw [if_pos e1, if_pos e1]
    by_cases e2 : 4 ≤ op
    · rw [if_pos e2, if_pos e2]; rfl
    · rw [if_neg e2, if_neg e2]
      have b40 : ∀ l', y_fl false (40 :: ρ) l' = (40 :: ρ, l') := fun l' => if_pos (Or.inl rfl)
      have k1 := hK (by omega) (g_s c n p + 1) l m (40 :: ρ) (by omega) b40
      rw [k1.1]
      cases e3 : K (g_s c n p + 1) l m with
      | none => rfl
      | some r =>
        have k2 := k1.2 r e3
        have hb := hB _ _ _ _ (show g_s c n p + 1 ≤ n by omega) e3
        simp only [Option.bind_some]
        rw [y_goF hb.2.1, b40, k2.1]
        unfold g_t
        by_cases e4 : g_h c n r.1 = 41
        · rw [if_pos ⟨e4, by omega⟩, if_pos e4]
          rfl
        · rw [if_neg (fun q => e4 q.1), if_neg e4, if_neg (by decide), if_pos (by omega)]
          rfl
  · rw [if_neg e1, if_neg e1]
    by_cases e2 : 65 ≤ g_h c n p ∧ g_h c n p ≤ 72
    · rw [if_pos e2, if_pos e2]; rfl
    · rw [if_neg e2, if_neg e2]
      cases e3 : g_d c n (g_s c n p) with
      | none => rfl
      | some r => rfl
theorem y_prl {K : Nat → List Int → Int32 → Option g_E} (hB : g_bnd n K) (hK : op < 4 → y_sp c n (op + 1) K) (hρ : ∀ l', y_fl true ρ l' = (ρ, l')) : ∀ (d p : Nat) (l : List Int) (m : Int32), p ≤ n → n < p + d →
    (y_go c n op false ρ p l m = (g_prl K c n op d p l m).bind fun r => y_go c n op false ρ r.1 r.2.1 r.2.2) ∧ ∀ r, g_prl K c n op d p l m = some r → y_nt c n r.1 ∧ g_s c n r.1 = r.1
  | 0, p, l, m, hp, hd => absurd hd (by omega)
  | d + 1, p, l, m, hp, hd => by
    have hs := g_s_le (c := c) hp
    have stp : ∀ x, y_tl x = true → g_h c n p = x → y_op c n p = true → (y_go c n op false ρ p l m = ((g_fac K c n op (g_s c n p + 1) l m).bind fun r => g_prl K c n op d r.1 (r.2.1 ++ [-(x : Int)]) r.2.2).bind fun r => y_go c n op false ρ r.1 r.2.1 r.2.2) ∧ ∀ r, ((g_fac K c n op (g_s c n p + 1) l m).bind fun r => g_prl K c n op d r.1 (r.2.1 ++ [-(x : Int)]) r.2.2) = some r → y_nt c n r.1 ∧ g_s c n r.1 = r.1 := by
      intro x hx hh ho
      have hlt := g_h_lt (c := c) (n := n) (p := p) (y_op_ne ho)
      have h41 : ¬ (g_h c n p = 41 ∧ 0 < op) := by
        rintro ⟨q, -⟩
        rw [hh] at q; subst q; cases hx
      rw [y_goF hp, if_neg h41, if_pos ho, hh, hx, hρ, y_fac hB hK (show g_s c n p + 1 ≤ n by omega)]
      cases e1 : g_fac K c n op (g_s c n p + 1) l m with
      | none => exact ⟨rfl, fun r q => by cases q⟩
      | some r =>
        have hb := g_fac_bnd hB _ _ _ _ (show g_s c n p + 1 ≤ n by omega) e1
        simp only [Option.bind_some]
        rw [y_popT hx hb.2.1]
        exact y_prl hB hK hρ d r.1 (r.2.1 ++ [-(x : Int)]) r.2.2 hb.2.1 (by omega)
    unfold g_prl
    by_cases e1 : g_ls c n p = true
    · rw [if_pos e1]
      refine ⟨(y_goFs hp).symm, fun r q => ?_⟩
      cases q
      have h42 : g_h c n p = 42 := by
        unfold g_ls at e1
        simp only [Bool.and_eq_true, decide_eq_true_eq] at e1
        exact e1.1
      refine ⟨⟨?_, fun _ => ?_⟩, g_s_s hp⟩
      · show g_h c n (g_s c n p) ≠ 47
        rw [g_h_s hp, h42]; decide
      · show g_ls c n (g_s c n p) = true
        rw [g_ls_s hp]; exact e1
    · rw [if_neg e1]
      unfold g_t
      by_cases e2 : g_h c n p = 42
      · rw [if_pos e2]
        refine stp 42 rfl e2 ?_
        unfold y_op
        rw [e2]
        simp [e1]
      · rw [if_neg e2]
        by_cases e3 : g_h c n p = 47
        · rw [if_pos e3]
          refine stp 47 rfl e3 ?_
          unfold y_op
          rw [e3]
          rfl
        · rw [if_neg e3]
          refine ⟨(y_goFs hp).symm, fun r q => ?_⟩
          cases q
          refine ⟨⟨?_, fun q => ?_⟩, g_s_s hp⟩
          · show g_h c n (g_s c n p) ≠ 47
            rw [g_h_s hp]; exact e3
          · replace q : g_h c n (g_s c n p) = 42 := q
            rw [g_h_s hp] at q
            exact absurd q e2
theorem y_pro {K : Nat → List Int → Int32 → Option g_E} (hn : n ≤ 40) (hB : g_bnd n K) (hK : op < 4 → y_sp c n (op + 1) K) (hρ : ∀ l', y_fl true ρ l' = (ρ, l')) (hp : p ≤ n) :
    (y_go c n op true ρ p l m = (g_pro K c n op p l m).bind fun r => y_go c n op false ρ r.1 r.2.1 r.2.2) ∧ ∀ r, g_pro K c n op p l m = some r → y_nt c n r.1 ∧ g_s c n r.1 = r.1 := by
  unfold g_pro
  rw [y_fac hB hK hp]
  cases e1 : g_fac K c n op p l m with
  | none => exact ⟨rfl, fun r q => by cases q⟩
  | some r =>
    have hb := g_fac_bnd hB _ _ _ _ hp e1
    simp only [Option.bind_some]
    exact y_prl hB hK hρ 40 r.1 r.2.1 r.2.2 hb.2.1 (by omega)
theorem y_sml {K : Nat → List Int → Int32 → Option g_E} (hn : n ≤ 40) (hB : g_bnd n K) (hK : op < 4 → y_sp c n (op + 1) K) (hσ : ∀ l', y_fl false σ l' = (σ, l')) : ∀ (d p : Nat) (l : List Int) (m : Int32), p ≤ n → n < p + d → y_nt c n p →
    (y_go c n op false σ p l m = (g_sml K c n op d p l m).bind fun r => y_go c n op false σ r.1 r.2.1 r.2.2) ∧ ∀ r, g_sml K c n op d p l m = some r → y_op c n r.1 = false ∧ g_s c n r.1 = r.1
  | 0, p, l, m, hp, hd, hnt => absurd hd (by omega)
  | d + 1, p, l, m, hp, hd, hnt => by
    have hs := g_s_le (c := c) hp
    have stp : ∀ x, y_tl x = false → x ≠ 40 → x ≠ 41 → g_h c n p = x → y_op c n p = true → (y_go c n op false σ p l m = ((g_pro K c n op (g_s c n p + 1) l m).bind fun r => g_sml K c n op d r.1 (r.2.1 ++ [-(x : Int)]) r.2.2).bind fun r => y_go c n op false σ r.1 r.2.1 r.2.2) ∧ ∀ r, ((g_pro K c n op (g_s c n p + 1) l m).bind fun r => g_sml K c n op d r.1 (r.2.1 ++ [-(x : Int)]) r.2.2) = some r → y_op c n r.1 = false ∧ g_s c n r.1 = r.1 := by
      intro x hx hx40 hx41 hh ho
      have hlt := g_h_lt (c := c) (n := n) (p := p) (y_op_ne ho)
      have h41 : ¬ (g_h c n p = 41 ∧ 0 < op) := by
        rintro ⟨q, -⟩
        rw [hh] at q; exact hx41 q
      have hρ : ∀ l', y_fl true (x :: σ) l' = (x :: σ, l') := fun l' => if_pos (Or.inr ⟨rfl, hx⟩)
      have kp := y_pro (l := l) (m := m) hn hB hK hρ (show g_s c n p + 1 ≤ n by omega)
      rw [y_goF hp, if_neg h41, if_pos ho, hh, hx, hσ, kp.1]
      cases e1 : g_pro K c n op (g_s c n p + 1) l m with
      | none => exact ⟨rfl, fun r q => by cases q⟩
      | some r =>
        have hb := g_pro_bnd hB _ _ _ _ (show g_s c n p + 1 ≤ n by omega) e1
        have k2 := kp.2 r e1
        simp only [Option.bind_some]
        rw [y_popP hx40 k2.1 hb.2.1]
        exact y_sml hn hB hK hσ d r.1 (r.2.1 ++ [-(x : Int)]) r.2.2 hb.2.1 (by omega) k2.1
    unfold g_sml g_t
    by_cases e2 : g_h c n p = 43
    · rw [if_pos e2]
      refine stp 43 rfl (by decide) (by decide) e2 ?_
      unfold y_op
      rw [e2]; rfl
    · rw [if_neg e2]
      by_cases e3 : g_h c n p = 45
      · rw [if_pos e3]
        refine stp 45 rfl (by decide) (by decide) e3 ?_
        unfold y_op
        rw [e3]; rfl
      · rw [if_neg e3]
        refine ⟨(y_goFs hp).symm, fun r q => ?_⟩
        cases q
        refine ⟨?_, g_s_s hp⟩
        show y_op c n (g_s c n p) = false
        rw [y_op_s hp]
        unfold y_op
        by_cases e4 : g_h c n p = 42
        · rw [hnt.2 e4, e4]; rfl
        · simp [e2, e3, hnt.1, e4]
theorem y_sum (hn : n ≤ 40) : ∀ (d op : Nat), op + d = 6 → op ≤ 4 → y_sp c n op (g_sum c n d op)
  | 0, op, h1, h2 => absurd h1 (by omega)
  | d + 1, op, h1, h2 => by
    intro q l m σ hq hσ
    have hK : op < 4 → y_sp c n (op + 1) (g_sum c n d (op + 1)) := fun h4 => y_sum hn d (op + 1) (by omega) (by omega)
    have hB := g_sum_bnd (c := c) (n := n) d (op + 1)
    have hσ2 : ∀ l', y_fl true σ l' = (σ, l') := by
      intro l'
      cases σ with
      | nil => rfl
      | cons x σ =>
        have := hσ l'
        by_cases e : x = 40
        · exact if_pos (Or.inl e)
        · exfalso
          rw [y_flF e] at this
          have h1 : ∀ (τ : List Nat) (l : List Int), (y_fl false τ l).1.length ≤ τ.length := by
            intro τ
            induction τ with
            | nil => intro l; exact Nat.le_refl _
            | cons y τ ih =>
              intro l
              unfold y_fl
              split
              · exact Nat.le_refl _
              · have := ih (l ++ [-(y : Int)])
                simp only [List.length_cons]
                omega
          have h2 := h1 σ (l' ++ [-(x : Int)])
          rw [this] at h2
          simp only [List.length_cons] at h2
          omega
    show (y_go c n op true σ q l m = (g_sm (g_sum c n d (op + 1)) c n op q l m).bind _) ∧ _
    unfold g_sum g_sm
    have kp := y_pro (l := l) (m := m) hn hB hK hσ2 hq
    rw [kp.1]
    cases e1 : g_pro (g_sum c n d (op + 1)) c n op q l m with
    | none => exact ⟨rfl, fun r q => by cases q⟩
    | some r =>
      have hb := g_pro_bnd hB _ _ _ _ hq e1
      have k2 := kp.2 r e1
      simp only [Option.bind_some]
      exact y_sml hn hB hK hσ 40 r.1 r.2.1 r.2.2 hb.2.1 (by omega) k2.1
/-- both say the same -/
theorem y_top (hn : n ≤ 40) (hp : p ≤ n) : y_go c n 0 true [] p l m = g_sum c n 6 0 p l m := by
  have k := y_sum (c := c) hn 6 0 (by omega) (by omega) p l m [] hp (fun _ => rfl)
  rw [k.1]
  cases e : g_sum c n 6 0 p l m with
  | none => rfl
  | some r =>
    have k2 := k.2 r e
    have hb := g_sum_bnd 6 0 _ _ _ _ hp e
    rw [Option.bind_some, y_goF hb.2.1, if_neg (fun q => absurd q.2 (by omega)), k2.1, if_neg (by decide), if_neg (by omega), k2.2]
    rfl
end YD
