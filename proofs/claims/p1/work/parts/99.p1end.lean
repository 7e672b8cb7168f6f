/-! ### Every first call -/
theorem p1_latest {K : ag_H → MS → Prop} (hK : ∀ h S, lw_Wf 2 52 74 h → K h S) (x : Int32) : lw_D (fun h => fn_GC_latest gx_N gx_C 2 x h) (fun S => fn_Md_latest gx_N x S) 52 gx_h2 md_S0 K := by
  obtain ⟨y, k1, k2⟩ := o_latest gx_N gx_C (S := md_S0) p1_2 rfl p1_7 rfl rfl rfl rfl p1_8 rfl x
  exact ⟨y, gx_h2, _, k1, k2, hK _ _ p1_w⟩
theorem p1_count {K : ag_H → MS → Prop} (hK : ∀ h S, lw_Wf 2 52 74 h → K h S) (x : Int32) : lw_D (fun h => fn_GC_count gx_N gx_C 2 x h) (fun S => fn_Md_count gx_N x S) 52 gx_h2 md_S0 K := by
  obtain ⟨y, k1, k2⟩ := o_count gx_N gx_C (S := md_S0) p1_2 rfl rfl rfl rfl rfl rfl p1_3 rfl p1_49 rfl p1_48 rfl p1_50 rfl p1_51 rfl p1_46 rfl p1_47 rfl x
  exact ⟨y, gx_h2, _, k1, k2, hK _ _ p1_w⟩
theorem p1_step {K : ag_H → MS → Prop} (hK : ∀ h S, lw_Wf 2 52 74 h → K h S) (G : ag_G) (t : Nat) : lw_step gx_N gx_C 2 52 74 G t gx_h2 md_S0 K := by
  unfold lw_step
  by_cases q0 : (ag_xs G (5 * t)) &&& (Int8.ofInt (15)).toInt32 = (0 : Int32)
  · rw [if_pos q0]
    exact p1_type hK _
  rw [if_neg q0]
  by_cases q1 : (ag_xs G (5 * t)) &&& (Int8.ofInt (15)).toInt32 = (1 : Int32)
  · rw [if_pos q1]
    exact p1_wipe hK
  rw [if_neg q1]
  by_cases q2 : (ag_xs G (5 * t)) &&& (Int8.ofInt (15)).toInt32 = (2 : Int32)
  · rw [if_pos q2]
    exact p1_clause hK
  rw [if_neg q2]
  by_cases q3 : (ag_xs G (5 * t)) &&& (Int8.ofInt (15)).toInt32 = (3 : Int32)
  · rw [if_pos q3]
    exact p1_desk hK
  rw [if_neg q3]
  by_cases q4 : (ag_xs G (5 * t)) &&& (Int8.ofInt (15)).toInt32 = (4 : Int32)
  · rw [if_pos q4]
    exact p1_clear hK
  rw [if_neg q4]
  by_cases q5 : (ag_xs G (5 * t)) &&& (Int8.ofInt (15)).toInt32 = (5 : Int32)
  · rw [if_pos q5]
    exact p1_issue hK _
  rw [if_neg q5]
  by_cases q6 : (ag_xs G (5 * t)) &&& (Int8.ofInt (15)).toInt32 = (6 : Int32)
  · rw [if_pos q6]
    exact p1_append hK _
  rw [if_neg q6]
  by_cases q7 : (ag_xs G (5 * t)) &&& (Int8.ofInt (15)).toInt32 = (7 : Int32)
  · rw [if_pos q7]
    exact p1_seal hK _
  rw [if_neg q7]
  by_cases q8 : (ag_xs G (5 * t)) &&& (Int8.ofInt (15)).toInt32 = (8 : Int32)
  · rw [if_pos q8]
    exact p1_tamper hK _ _ _ _
  rw [if_neg q8]
  by_cases q9 : (ag_xs G (5 * t)) &&& (Int8.ofInt (15)).toInt32 = (9 : Int32)
  · rw [if_pos q9]
    exact p1_limits hK _ _
  rw [if_neg q9]
  by_cases q10 : (ag_xs G (5 * t)) &&& (Int8.ofInt (15)).toInt32 = (10 : Int32)
  · rw [if_pos q10]
    exact p1_authorize hK _ _
  rw [if_neg q10]
  by_cases q11 : (ag_xs G (5 * t)) &&& (Int8.ofInt (15)).toInt32 = (11 : Int32)
  · rw [if_pos q11]
    exact p1_latest hK _
  rw [if_neg q11]
  by_cases q12 : (ag_xs G (5 * t)) &&& (Int8.ofInt (15)).toInt32 = (12 : Int32)
  · rw [if_pos q12]
    exact p1_fact hK _ _
  rw [if_neg q12]
  by_cases q13 : (ag_xs G (5 * t)) &&& (Int8.ofInt (15)).toInt32 = (13 : Int32)
  · rw [if_pos q13]
    exact p1_token hK _ _
  rw [if_neg q13]
  by_cases q14 : (ag_xs G (5 * t)) &&& (Int8.ofInt (15)).toInt32 = (14 : Int32)
  · rw [if_pos q14]
    exact p1_count hK _
  rw [if_neg q14]
  exact hK _ _ p1_w
/-- at most one call -/
theorem p1_gp : gp := by
  intro G hL
  refine ⟨fun t h S => if t = 0 then h = gx_h2 ∧ S = md_S0 else lw_Wf 2 52 74 h, ?_, ?_, ?_⟩
  · intro t h S hi
    replace hi : (if t = 0 then h = gx_h2 ∧ S = md_S0 else lw_Wf 2 52 74 h) := hi
    rw [gx_b52]
    by_cases e : t = 0
    · rw [if_pos e] at hi
      rw [hi.1]; exact p1_w
    · rw [if_neg e] at hi; exact hi
  · exact ⟨rfl, rfl⟩
  · intro t h S ht hi
    obtain rfl : t = 0 := by omega
    replace hi : (if 0 = 0 then h = gx_h2 ∧ S = md_S0 else lw_Wf 2 52 74 h) := hi
    rw [if_pos rfl] at hi
    obtain ⟨rfl, rfl⟩ := hi
    rw [gx_b52]
    exact p1_step (fun h S w => by show (if 0 + 1 = 0 then h = gx_h2 ∧ S = md_S0 else lw_Wf 2 52 74 h); rw [if_neg (by decide)]; exact w) G 0
theorem i_vc : Claimed_1_1 ∧ Claimed_1_2 := ve_claim p1_gp
