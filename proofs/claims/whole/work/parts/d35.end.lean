/-! ### The claim -/
theorem i_vc : Claimed_1_1 ∧ Claimed_1_2 := ve_claim gz_gp
