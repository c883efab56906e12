/-! THE CLAIM: every script of at most 6 ints -/
theorem i_vc : Claimed_1_1 ∧ Claimed_1_2 := vs_claim_open fun L xs h => p1_ends L xs h
