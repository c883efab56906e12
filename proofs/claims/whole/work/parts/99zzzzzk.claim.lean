/-! the claim -/
theorem i_vc : Claimed_1_1 ∧ Claimed_1_2 := vs_claim_open (ends_ce qq_1 qq_2 qq_3 (fun _ h => ph_q h.2.2.1 h.2.2.2.1) qq_t2 qq_t5)
