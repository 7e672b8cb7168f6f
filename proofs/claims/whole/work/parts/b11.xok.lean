/-! ### What holds of every clause that is read -/
def bt (x : Int32) (i : Nat) : Bool := x.toBitVec.getLsbD i
theorem bt_or (a b : Int32) (i : Nat) : bt (a ||| b) i = (bt a i || bt b i) := by
  unfold bt
  rw [Int32.toBitVec_or, BitVec.getLsbD_or]
theorem bt_0 (i : Nat) : bt 0 i = false := by
  show (0#32 : BitVec 32).getLsbD i = false
  exact BitVec.getLsbD_zero
theorem bt_sub {a b : Int32} (h : a &&& (b ^^^ (Int32.ofInt (-1))) = 0) (i : Nat) (ha : bt a i = true) : bt b i = true := by
  have h2 := congrArg (fun x : Int32 => x.toBitVec.getLsbD i) h
  simp only [Int32.toBitVec_and, Int32.toBitVec_xor, BitVec.getLsbD_and, BitVec.getLsbD_xor] at h2
  unfold bt at ha ⊢
  have hi : i < 32 := by
    by_cases e : i < 32
    · exact e
    · rw [BitVec.getLsbD_of_ge _ _ (by omega)] at ha; cases ha
  rw [ha, Bool.true_and, show (Int32.ofInt (-1)).toBitVec = BitVec.allOnes 32 by decide, BitVec.getLsbD_allOnes, decide_eq_true hi, show (0 : Int32).toBitVec.getLsbD i = false from BitVec.getLsbD_zero] at h2
  cases hb : b.toBitVec.getLsbD i with
  | true => rfl
  | false => rw [hb] at h2; cases h2
theorem bt_bits : ∀ k : Fin 8, ∀ i : Fin 32, bt (g_bit (1048576 + (k.val : Int))) i.val = decide (k.val = i.val) := by decide +kernel
theorem bt_bit {t : Int} (ht : j_tv t) (h : ¬ t < 1048576) (i : Nat) : bt (g_bit t) i = decide (j_ix t = i) := by
  obtain ⟨h1, h2⟩ := j_ix_lt ht h
  by_cases e : i < 32
  · have := bt_bits ⟨j_ix t, h1⟩ ⟨i, e⟩
    simp only at this
    rw [← h2] at this
    exact this
  · rw [decide_eq_false (by omega)]
    exact BitVec.getLsbD_of_ge _ _ (by omega)
theorem g_d_v {c : Nat → Nat} {n p : Nat} {r : Nat × Nat} (e : g_d c n p = some r) : r.1 < 10000 := by
  unfold g_d at e
  split at e
  · cases e
  · next h =>
    cases e
    have h1 := (g_dc_le c n 5 p).1
    have h2 := g_dv_lt c n (g_dc c n 5 p) 5 p 0 (Nat.le_refl _)
    have h3 : 10 ^ g_dc c n 5 p ≤ 10 ^ 4 := Nat.pow_le_pow_right (by decide) (by omega)
    show g_dv c (g_dc c n 5 p) p 0 < 10000
    omega
theorem g_tm_tv {c : Nat → Nat} {n p : Nat} {r : Int × Nat} (e : g_tm c n p = some r) : j_tv r.1 := by
  unfold g_tm at e
  split at e
  · next h =>
    cases e
    refine Or.inr ?_
    show 1048576 ≤ 1048576 + ((g_h c n p - 65 : Nat) : Int) ∧ 1048576 + ((g_h c n p - 65 : Nat) : Int) ≤ 1048583
    omega
  · split at e
    · obtain ⟨q, e1, e2⟩ := md_bd e
      have := g_d_v e1
      cases e2
      refine Or.inl ?_
      show -9999 ≤ -(q.1 : Int) ∧ -(q.1 : Int) ≤ 9999
      omega
    · obtain ⟨q, e1, e2⟩ := md_bd e
      have := g_d_v e1
      cases e2
      refine Or.inl ?_
      show -9999 ≤ (q.1 : Int) ∧ (q.1 : Int) ≤ 9999
      omega
def a_ok (a : g_A) : Prop := a_sz a ∧ a.1 < 26 ∧ j_tv a.2.2.1 ∧ j_tv a.2.2.2
theorem j_tv0 : j_tv 0 := Or.inl (by decide)
theorem g_at_a {c : Nat → Nat} {n p : Nat} {r : g_A × Nat} (e : g_at c n p = some r) : a_ok r.1 := by
  unfold g_at at e
  split at e
  · next h =>
    split at e
    · cases e
      exact ⟨⟨Nat.zero_le _, fun _ => rfl, fun _ => rfl⟩, show g_h c n p - 97 < 26 by omega, j_tv0, j_tv0⟩
    · next p1 e1 =>
      obtain ⟨r1, er1, e⟩ := md_bd e
      have h2 := g_tm_tv er1
      split at e
      · cases e
        exact ⟨⟨show 1 ≤ 2 by omega, fun _ => rfl, fun q => absurd (show 1 = 0 from q) (by decide)⟩, show g_h c n p - 97 < 26 by omega, h2, j_tv0⟩
      · obtain ⟨p3, e3, e⟩ := md_bd e
        obtain ⟨r2, er2, e⟩ := md_bd e
        obtain ⟨p5, e5, e⟩ := md_bd e
        have h4 := g_tm_tv er2
        cases e
        exact ⟨⟨show 2 ≤ 2 by omega, fun q => absurd (show 2 ≤ 1 from q) (by decide), fun q => absurd (show 2 = 0 from q) (by decide)⟩, show g_h c n p - 97 < 26 by omega, h2, h4⟩
  · cases e
theorem bt_vs1 {a : g_A} (h : a_ok a) {i : Nat} (hb : bt (g_vs a) i = true) : (¬ a.2.2.1 < 1048576 ∧ j_ix a.2.2.1 = i) ∨ (¬ a.2.2.2 < 1048576 ∧ j_ix a.2.2.2 = i) := by
  unfold g_vs at hb
  rw [bt_or] at hb
  rcases Bool.or_eq_true _ _ ▸ hb with hb | hb
  · by_cases e : a.2.2.1 < 1048576
    · rw [g_bit0 e, bt_0] at hb; cases hb
    · rw [bt_bit h.2.2.1 e] at hb
      exact Or.inl ⟨e, of_decide_eq_true hb⟩
  · by_cases e : a.2.2.2 < 1048576
    · rw [g_bit0 e, bt_0] at hb; cases hb
    · rw [bt_bit h.2.2.2 e] at hb
      exact Or.inr ⟨e, of_decide_eq_true hb⟩
theorem bt_vs2 {a : g_A} (h : a_ok a) : (¬ a.2.2.1 < 1048576 → bt (g_vs a) (j_ix a.2.2.1) = true) ∧ (¬ a.2.2.2 < 1048576 → bt (g_vs a) (j_ix a.2.2.2) = true) := by
  unfold g_vs
  refine ⟨fun e => ?_, fun e => ?_⟩
  · rw [bt_or, bt_bit h.2.2.1 e, decide_eq_true rfl, Bool.true_or]
  · rw [bt_or, bt_bit h.2.2.2 e, decide_eq_true rfl, Bool.or_true]
theorem j_bm_app : ∀ (as bs : List g_A), j_bm (as ++ bs) = j_bm as ||| j_bm bs
  | [], bs => by show j_bm bs = 0 ||| j_bm bs; rw [Nat.zero_or]
  | a :: as, bs => by
    show _ ||| (_ ||| j_bm (as ++ bs)) = (_ ||| (_ ||| j_bm as)) ||| j_bm bs
    rw [j_bm_app as bs, Nat.or_assoc, Nat.or_assoc]
theorem bt_bm {a : g_A} (h : a_ok a) {i : Nat} (hb : bt (g_vs a) i = true) : (j_bm [a]).testBit i = true := by
  show ((if a.2.2.1 < 1048576 then 0 else 2 ^ j_ix a.2.2.1) ||| ((if a.2.2.2 < 1048576 then 0 else 2 ^ j_ix a.2.2.2) ||| 0)).testBit i = true
  rw [Nat.testBit_or, Nat.testBit_or]
  rcases bt_vs1 h hb with ⟨h1, h2⟩ | ⟨h1, h2⟩
  · rw [if_neg h1, ← h2, Nat.testBit_two_pow_self, Bool.true_or]
  · rw [if_neg (c := a.2.2.2 < 1048576) h1, ← h2, Nat.testBit_two_pow_self, Bool.true_or, Bool.or_true]
/-! steps -/
theorem wdp_app : ∀ (s t : List Int) (d : Nat), wdp (s ++ t) d = (wdp s d).bind (wdp t)
  | [], t, d => rfl
  | x :: s, t, d => by
    show wdp (x :: (s ++ t)) d = _
    unfold wdp
    split
    · exact wdp_app s t _
    · split
      · rfl
      · split
        · exact wdp_app s t _
        · exact wdp_app s t _
/-- k values more than before -/
def e_sp (k : Nat) (l : List Int) (m : Int32) (r : List Int × Int32) : Prop := ∃ s, r.1 = l ++ s ∧ (∀ d, wdp s (d + 1 - k) = some (d + 1)) ∧ (∀ x, x ∈ s → j_sv x) ∧ (∀ i, bt m i = true → bt r.2 i = true) ∧ ∀ x, x ∈ s → ¬ x < 1048576 → bt r.2 (j_ix x) = true
theorem e_one {l : List Int} {m : Int32} {x : Int} (h0 : 0 ≤ x) (hx : j_tv x) {m' : Int32} (hm : ∀ i, bt m i = true → bt m' i = true) (hv : ¬ x < 1048576 → bt m' (j_ix x) = true) : e_sp 1 l m (l ++ [x], m') := by
  refine ⟨[x], rfl, fun d => ?_, fun y hy => ?_, hm, fun y hy => ?_⟩
  · show wdp [x] d = _
    unfold wdp
    rw [if_pos h0]
    rfl
  · rw [List.mem_singleton.mp hy]; exact Or.inl ⟨h0, hx⟩
  · rw [List.mem_singleton.mp hy]; exact hv
theorem e_join {l : List Int} {m : Int32} {r1 r2 : List Int × Int32} {x : Int} (hx : x = -42 ∨ x = -43 ∨ x = -45 ∨ x = -47) (h1 : e_sp 1 l m r1) {r3 : List Int × Int32} (h3 : e_sp 0 (r1.1 ++ [x]) r1.2 r3) : e_sp 0 l m r3 := by
  obtain ⟨s1, a1, a2, a3, a4, a5⟩ := h1
  obtain ⟨s3, c1, c2, c3, c4, c5⟩ := h3
  refine ⟨s1 ++ ([x] ++ s3), ?_, fun d => ?_, fun y hy => ?_, fun i hi => c4 i (a4 i hi), fun y hy hv => ?_⟩
  · rw [c1, a1, List.append_assoc, List.append_assoc]
  · have a2' : wdp s1 (d + 1) = some (d + 1 + 1) := a2 (d + 1)
    have hx2 : wdp [x] (d + 1 + 1) = some (d + 1) := by
      rcases hx with rfl | rfl | rfl | rfl <;> rfl
    show wdp (s1 ++ ([x] ++ s3)) (d + 1) = _
    rw [wdp_app, a2', Option.bind_some, wdp_app, hx2, Option.bind_some]
    exact c2 d
  · rcases List.mem_append.mp hy with hy | hy
    · exact a3 y hy
    · rcases List.mem_append.mp hy with hy | hy
      · rw [List.mem_singleton.mp hy]
        rcases hx with h | h | h | h
        · exact Or.inr (Or.inl h)
        · exact Or.inr (Or.inr (Or.inl h))
        · exact Or.inr (Or.inr (Or.inr (Or.inl h)))
        · exact Or.inr (Or.inr (Or.inr (Or.inr (Or.inl h))))
      · exact c3 y hy
  · rcases List.mem_append.mp hy with hy | hy
    · exact c4 _ (a5 y hy hv)
    · rcases List.mem_append.mp hy with hy | hy
      · rw [List.mem_singleton.mp hy] at hv
        exact absurd (show x < 1048576 by omega) hv
      · exact c5 y hy hv
theorem e_cat {l : List Int} {m : Int32} {r1 r2 : List Int × Int32} (h1 : e_sp 1 l m r1) (h2 : e_sp 0 r1.1 r1.2 r2) : e_sp 1 l m r2 := by
  obtain ⟨s1, a1, a2, a3, a4, a5⟩ := h1
  obtain ⟨s3, c1, c2, c3, c4, c5⟩ := h2
  refine ⟨s1 ++ s3, ?_, fun d => ?_, fun y hy => ?_, fun i hi => c4 i (a4 i hi), fun y hy hv => ?_⟩
  · rw [c1, a1, List.append_assoc]
  · have a2' : wdp s1 d = some (d + 1) := a2 d
    show wdp (s1 ++ s3) d = _
    rw [wdp_app, a2', Option.bind_some]
    exact c2 d
  · rcases List.mem_append.mp hy with hy | hy
    · exact a3 y hy
    · exact c3 y hy
  · rcases List.mem_append.mp hy with hy | hy
    · exact c4 _ (a5 y hy hv)
    · exact c5 y hy hv
theorem e_nil (l : List Int) (m : Int32) : e_sp 0 l m (l, m) := ⟨[], (List.append_nil l).symm, fun _ => rfl, fun _ h => absurd h List.not_mem_nil, fun _ h => h, fun _ h => absurd h List.not_mem_nil⟩
def e_K (K : Nat → List Int → Int32 → Option g_E) : Prop := ∀ p l m r, K p l m = some r → e_sp 1 l m r.2
theorem e_fac {K : Nat → List Int → Int32 → Option g_E} {c : Nat → Nat} {n op : Nat} (hK : e_K K) : e_K (g_fac K c n op) := by
  intro p l m r e
  unfold g_fac at e
  split at e
  · split at e
    · cases e
    · obtain ⟨r1, e1, e⟩ := md_bd e
      obtain ⟨p2, e2, e⟩ := md_bd e
      cases e
      exact hK _ _ _ r1 e1
  · split at e
    · next h =>
      cases e
      have htv : j_tv (1048576 + ((g_h c n p - 65 : Nat) : Int)) := by
        refine Or.inr ?_
        omega
      exact e_one (by omega) htv (fun i hi => by rw [bt_or, hi, Bool.true_or]) (fun hv => by rw [bt_or, bt_bit htv hv, decide_eq_true rfl, Bool.or_true])
    · obtain ⟨r1, e1, e⟩ := md_bd e
      have := g_d_v e1
      cases e
      exact e_one (by omega) (Or.inl (by omega)) (fun i hi => hi) (fun hv => absurd (show (r1.1 : Int) < 1048576 by omega) hv)
theorem e_prl {K : Nat → List Int → Int32 → Option g_E} {c : Nat → Nat} {n op : Nat} (hK : e_K K) : ∀ (d p : Nat) (l : List Int) (m : Int32) (r : g_E), g_prl K c n op d p l m = some r → e_sp 0 l m r.2
  | 0, p, l, m, r, e => by cases e; exact e_nil l m
  | d + 1, p, l, m, r, e => by
    unfold g_prl at e
    split at e
    · cases e; exact e_nil l m
    · split at e
      · obtain ⟨r1, e1, e⟩ := md_bd e
        exact e_join (r2 := r1.2) (Or.inl rfl) (e_fac hK _ _ _ _ e1) (e_prl hK d _ _ _ _ e)
      · split at e
        · obtain ⟨r1, e1, e⟩ := md_bd e
          exact e_join (r2 := r1.2) (Or.inr (Or.inr (Or.inr rfl))) (e_fac hK _ _ _ _ e1) (e_prl hK d _ _ _ _ e)
        · cases e; exact e_nil l m
theorem e_pro {K : Nat → List Int → Int32 → Option g_E} {c : Nat → Nat} {n op : Nat} (hK : e_K K) : e_K (g_pro K c n op) := by
  intro p l m r e
  unfold g_pro at e
  obtain ⟨r1, e1, e⟩ := md_bd e
  exact e_cat (e_fac hK _ _ _ _ e1) (e_prl hK 40 _ _ _ _ e)
theorem e_sml {K : Nat → List Int → Int32 → Option g_E} {c : Nat → Nat} {n op : Nat} (hK : e_K K) : ∀ (d p : Nat) (l : List Int) (m : Int32) (r : g_E), g_sml K c n op d p l m = some r → e_sp 0 l m r.2
  | 0, p, l, m, r, e => by cases e; exact e_nil l m
  | d + 1, p, l, m, r, e => by
    unfold g_sml at e
    split at e
    · obtain ⟨r1, e1, e⟩ := md_bd e
      exact e_join (r2 := r1.2) (Or.inr (Or.inl rfl)) (e_pro hK _ _ _ _ e1) (e_sml hK d _ _ _ _ e)
    · split at e
      · obtain ⟨r1, e1, e⟩ := md_bd e
        exact e_join (r2 := r1.2) (Or.inr (Or.inr (Or.inl rfl))) (e_pro hK _ _ _ _ e1) (e_sml hK d _ _ _ _ e)
      · cases e; exact e_nil l m
theorem e_sm {K : Nat → List Int → Int32 → Option g_E} {c : Nat → Nat} {n op : Nat} (hK : e_K K) : e_K (g_sm K c n op) := by
  intro p l m r e
  unfold g_sm at e
  obtain ⟨r1, e1, e⟩ := md_bd e
  exact e_cat (e_pro hK _ _ _ _ e1) (e_sml hK 40 _ _ _ _ e)
theorem e_sum {c : Nat → Nat} {n : Nat} : ∀ d op, e_K (g_sum c n d op)
  | 0, op => fun p l m r e => by cases e
  | d + 1, op => e_sm (e_sum d (op + 1))
/-- comparisons: nothing is left -/
def e_c (l : List Int) (m : Int32) (r : List Int × Int32) : Prop := ∃ s, r.1 = l ++ s ∧ (∀ d, wdp s d = some d) ∧ (∀ x, x ∈ s → j_sv x) ∧ (∀ i, bt m i = true → bt r.2 i = true) ∧ ∀ x, x ∈ s → ¬ x < 1048576 → bt r.2 (j_ix x) = true
theorem e_cmp {c : Nat → Nat} {n p : Nat} {l : List Int} {m : Int32} {r : g_E} (e : g_cmp c n p l m = some r) : e_c l m r.2 := by
  unfold g_cmp at e
  obtain ⟨r1, e1, e⟩ := md_bd e
  split at e
  · next hc =>
    obtain ⟨r2, e2, e⟩ := md_bd e
    obtain ⟨s1, a1, a2, a3, a4, a5⟩ := e_sum 6 0 _ _ _ _ e1
    obtain ⟨s2, c1, c2, c3, c4, c5⟩ := e_sum 6 0 _ _ _ _ e2
    cases e
    have hx : g_h c n r1.1 = 60 ∨ g_h c n r1.1 = 62 ∨ g_h c n r1.1 = 61 ∨ g_h c n r1.1 = 35 := by
      unfold g_isc at hc
      simp only [Bool.or_eq_true, beq_iff_eq] at hc
      omega
    refine ⟨s1 ++ (s2 ++ [-((g_h c n r1.1 : Nat) : Int)]), ?_, fun d => ?_, fun y hy => ?_, fun i hi => c4 i (a4 i hi), fun y hy hv => ?_⟩
    · show r2.2.1 ++ _ = _
      rw [c1, a1, List.append_assoc, List.append_assoc]
    · have a2' : wdp s1 d = some (d + 1) := a2 d
      have c2' : wdp s2 (d + 1) = some (d + 1 + 1) := c2 (d + 1)
      rw [wdp_app, a2', Option.bind_some, wdp_app, c2', Option.bind_some]
      rcases hx with h | h | h | h <;> rw [h] <;> rfl
    · rcases List.mem_append.mp hy with hy | hy
      · exact a3 y hy
      · rcases List.mem_append.mp hy with hy | hy
        · exact c3 y hy
        · rw [List.mem_singleton.mp hy]
          unfold j_sv
          omega
    · rcases List.mem_append.mp hy with hy | hy
      · exact c4 _ (a5 y hy hv)
      · rcases List.mem_append.mp hy with hy | hy
        · exact c5 y hy hv
        · rw [List.mem_singleton.mp hy] at hv
          omega
  · cases e
theorem e_c_cat {l : List Int} {m : Int32} {r1 r2 : List Int × Int32} (h1 : e_c l m r1) (h2 : e_c r1.1 r1.2 r2) : e_c l m r2 := by
  obtain ⟨s1, a1, a2, a3, a4, a5⟩ := h1
  obtain ⟨s3, c1, c2, c3, c4, c5⟩ := h2
  refine ⟨s1 ++ s3, ?_, fun d => ?_, fun y hy => ?_, fun i hi => c4 i (a4 i hi), fun y hy hv => ?_⟩
  · rw [c1, a1, List.append_assoc]
  · rw [wdp_app, a2, Option.bind_some, c2]
  · rcases List.mem_append.mp hy with hy | hy
    · exact a3 y hy
    · exact c3 y hy
  · rcases List.mem_append.mp hy with hy | hy
    · exact c4 _ (a5 y hy hv)
    · exact c5 y hy hv
theorem e_cms {c : Nat → Nat} {n : Nat} : ∀ (d p : Nat) (l : List Int) (m : Int32) (r : g_E), g_cms c n d p l m = some r → e_c l m r.2
  | 0, p, l, m, r, e => by cases e
  | d + 1, p, l, m, r, e => by
    unfold g_cms at e
    obtain ⟨r1, e1, e⟩ := md_bd e
    have h1 := e_cmp e1
    split at e
    · cases e; exact h1
    · exact e_c_cat h1 (e_cms d _ _ _ _ e)
def e_b (m : Int32) (r : (List g_A × Int32) × g_E) : Prop := 1 ≤ r.1.1.length ∧ r.1.1.length ≤ 3 ∧ (∀ a, a ∈ r.1.1 → a_ok a) ∧ (∀ i, bt r.1.2 i = true → (j_bm r.1.1).testBit i = true) ∧ e_c [] m r.2.2
theorem e_c_nil (m : Int32) : e_c [] m ([], m) := ⟨[], rfl, fun _ => rfl, fun _ h => absurd h List.not_mem_nil, fun _ h => h, fun _ h => absurd h List.not_mem_nil⟩
theorem e_bd {c : Nat → Nat} {n : Nat} {m : Int32} : ∀ (e p : Nat) (as : List g_A) (bv : Int32) (r : (List g_A × Int32) × g_E), as.length + e = 3 → (∀ a, a ∈ as → a_ok a) → (∀ i, bt bv i = true → (j_bm as).testBit i = true) → g_bd c n m e p as bv = some r → e_b m r
  | 0, p, as, bv, r, hl, ha, hb, e => by
    unfold g_bd at e
    obtain ⟨r1, e1, e⟩ := md_bd e
    cases e
    exact ⟨show 1 ≤ as.length by omega, show as.length ≤ 3 by omega, ha, hb, e_cms 2 _ _ _ _ e1⟩
  | d + 1, p, as, bv, r, hl, ha, hb, e => by
    unfold g_bd at e
    obtain ⟨r1, e1, e⟩ := md_bd e
    have h1 := g_at_a e1
    have ha' : ∀ a, a ∈ as ++ [r1.1] → a_ok a := fun a h => by
      rcases List.mem_append.mp h with h | h
      · exact ha a h
      · rw [List.mem_singleton.mp h]; exact h1
    have hb' : ∀ i, bt (bv ||| g_vs r1.1) i = true → (j_bm (as ++ [r1.1])).testBit i = true := fun i hi => by
      rw [bt_or] at hi
      rw [j_bm_app, Nat.testBit_or]
      rcases Bool.or_eq_true _ _ ▸ hi with hi | hi
      · rw [hb i hi, Bool.true_or]
      · rw [bt_bm h1 hi, Bool.or_true]
    have hl' : (as ++ [r1.1]).length = as.length + 1 := by rw [List.length_append]; rfl
    split at e
    · cases e
      exact ⟨show 1 ≤ (as ++ [r1.1]).length by omega, show (as ++ [r1.1]).length ≤ 3 by omega, ha', hb', e_c_nil m⟩
    · split at e
      · exact e_bd d _ _ _ _ (by omega) ha' hb' e
      · obtain ⟨r2, e2, e⟩ := md_bd e
        cases e
        exact ⟨show 1 ≤ (as ++ [r1.1]).length by omega, show (as ++ [r1.1]).length ≤ 3 by omega, ha', hb', e_cms 2 _ _ _ _ e2⟩
/-- a clause that ends well -/
theorem e_end {c : Nat → Nat} {n k : Nat} {hd : Option g_A} {as : List g_A} {l : List Int} {nv bv : Int32} {s : Bool} {p : Nat} {x : g_Cl} (e : g_end c n k hd as l nv bv s p = some x) : x = (k, s, hd, as, l) ∧ nv &&& (bv ^^^ (Int32.ofInt (-1))) = 0 := by
  unfold g_end at e
  split at e
  · split at e
    · next h => cases e; exact ⟨rfl, h⟩
    · cases e
  · cases e
theorem e_fin {k : Nat} {s : Bool} {hd : Option g_A} {nv0 : Int32} (hk : k ≤ 5) (hk1 : 1 ≤ k) (hh : k ≤ 1 → ∃ y, hd = some y) (hn : 2 ≤ k → hd = none) (hy : ∀ y, hd = some y → a_ok y ∧ nv0 = g_vs y) {r : (List g_A × Int32) × g_E} (hb : e_b nv0 r) (hl : r.2.2.1.length ≤ 40) (hm : r.2.2.2 &&& (r.1.2 ^^^ (Int32.ofInt (-1))) = 0) : x_ok (k, s, hd, r.1.1, r.2.2.1) := by
  obtain ⟨b1, b2, b3, b4, s0, c1, c2, c3, c4, c5⟩ := hb
  rw [List.nil_append] at c1
  have hbit : ∀ i, bt r.2.2.2 i = true → (j_bm r.1.1).testBit i = true := fun i hi => b4 i (bt_sub hm i hi)
  refine ⟨⟨b2, fun a ha => (b3 a ha).2.2, fun y hyy => ?_, hl, ?_, ?_, ?_⟩, hk, hh, fun _ => b1, hn, fun y hyy => ⟨(hy y hyy).1.1, (hy y hyy).1.2.1⟩, fun a ha => ⟨(b3 a ha).1, (b3 a ha).2.1⟩, fun q => absurd (show k = 0 from q) (by omega)⟩
  · obtain ⟨h1, h2⟩ := hy y hyy
    refine ⟨h1.2.2.1, h1.2.2.2, fun hv => hbit _ (c4 _ ?_), fun hv => hbit _ (c4 _ ?_)⟩
    · rw [h2]; exact (bt_vs2 h1).1 hv
    · rw [h2]; exact (bt_vs2 h1).2 hv
  · show wdp r.2.2.1 0 ≠ none
    rw [c1, c2]
    exact fun q => by cases q
  · intro z hz
    have hz : z ∈ r.2.2.1 := hz
    rw [c1] at hz
    exact c3 z hz
  · intro z hz hv
    have hz : z ∈ r.2.2.1 := hz
    rw [c1] at hz
    exact hbit _ (c5 z hz hv)
theorem e_tail {c : Nat → Nat} {n k p : Nat} {hd : Option g_A} {nv0 : Int32} (hn40 : n ≤ 40) (hp : p ≤ n) (hk : k ≤ 5) (hk1 : 1 ≤ k) (hh : k ≤ 1 → ∃ y, hd = some y) (hn : 2 ≤ k → hd = none) (hy : ∀ y, hd = some y → a_ok y ∧ nv0 = g_vs y) {x : g_Cl} (e : g_tail c n k hd nv0 p = some x) : x_ok x ∧ x.1 = k := by
  unfold g_tail at e
  obtain ⟨r, e1, e⟩ := md_bd e
  have hb := e_bd 3 p [] 0 r rfl (fun _ h => absurd h List.not_mem_nil) (fun i hi => by rw [bt_0] at hi; cases hi) e1
  have hl := g_bd_ok 3 p [] 0 r hp e1
  split at e
  · obtain ⟨h1, h2⟩ := e_end e
    rw [h1]
    exact ⟨e_fin hk hk1 hh hn hy hb (by omega) h2, rfl⟩
  · obtain ⟨h1, h2⟩ := e_end e
    rw [h1]
    exact ⟨e_fin hk hk1 hh hn hy hb (by omega) h2, rfl⟩
theorem g_rd_ok {c : Nat → Nat} {n : Nat} (hn40 : n ≤ 40) {x : g_Cl} (e : g_rd c n = some x) : x_ok x := by
  have hs0 := g_s_le (c := c) (Nat.zero_le n)
  have hno : ∀ (k : Nat), k = 2 ∨ k = 3 ∨ k = 4 ∨ k = 5 → g_h c n 0 ≠ 0 → g_tail c n k none 0 (g_s c n 0 + 1) = some x → x_ok x := by
    intro k hk hh e
    have := g_h_lt hh
    exact (e_tail hn40 (by omega) (by omega) (by omega) (fun q => by omega) (fun _ => rfl) (fun y q => by cases q) e).1
  unfold g_rd at e
  split at e
  · next h => exact hno 2 (by omega) (by omega) e
  · split at e
    · next h => exact hno 3 (by omega) (by omega) e
    · split at e
      · next h => exact hno 4 (by omega) (by omega) e
      · split at e
        · next h => exact hno 5 (by omega) (by omega) e
        · obtain ⟨r, e1, e⟩ := md_bd e
          have h1 := g_at_a e1
          have h2 := g_at_ok hs0.2 (show _ = some (r.1, r.2) from e1)
          split at e
          · next p2 e2 =>
            have h3 := g_t_ok (show r.2 ≤ n by omega) (by decide) e2
            exact (e_tail hn40 h3.2 (by omega) (by omega) (fun _ => ⟨r.1, rfl⟩) (fun q => by omega) (fun y q => by cases q; exact ⟨h1, rfl⟩) e).1
          · obtain ⟨h3, h4⟩ := e_end e
            rw [h3]
            have hnv : ∀ i, bt (g_vs r.1) i = true → False := fun i hi => by
              have := bt_sub h4 i hi
              rw [bt_0] at this
              cases this
            refine ⟨⟨by show 0 ≤ 3; omega, fun a ha => absurd ha List.not_mem_nil, fun y hy => ?_, by show 0 ≤ 40; omega, ?_, fun z hz => absurd hz List.not_mem_nil, fun z hz => absurd hz List.not_mem_nil⟩, by show 0 ≤ 5; omega, fun _ => ⟨r.1, rfl⟩, fun q => absurd rfl q, fun q => absurd (show 2 ≤ 0 from q) (by omega), fun y hy => ?_, fun a ha => absurd ha List.not_mem_nil, fun _ => rfl⟩
            · cases hy
              exact ⟨h1.2.2.1, h1.2.2.2, fun hv => (hnv _ ((bt_vs2 h1).1 hv)).elim, fun hv => (hnv _ ((bt_vs2 h1).2 hv)).elim⟩
            · show wdp [] 0 ≠ none
              exact fun q => by cases q
            · cases hy
              exact ⟨h1.1, h1.2.1⟩
