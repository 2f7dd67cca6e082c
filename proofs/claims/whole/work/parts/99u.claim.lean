/-! The claim -/
theorem i_vc : Claimed_1_1 ∧ Claimed_1_2 := xw_claim xw_all
