/-- the whole of the claim -/
theorem i_vc : Claimed_1_1 ∧ Claimed_1_2 := i_of l_all
