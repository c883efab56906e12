/-! TURNS OF THE LAW'S LOOP: items, end, kind, explore without a text, feed. Written by wip/prog/gen_steps.py -/
section TURN
variable {Q : st_S → Prop} {L n c : Nat} {xs : Nat → Int32} {σ σ' : st_S} {b : Option (Int32 × Int32)}
theorem Fr.tz {I J R : List (Nat × Nat)} {A L : List Nat} {σ σ' σ'' : st_S} (h : Fr c I J R A L σ σ') (h' : Fr 0 I J R A L σ' σ'') : Fr c I J R A L σ σ'' := by
  have e := h.tr h'
  rw [Nat.add_zero] at e
  exact e
theorem Fo.tn (σ : st_S) : Fo 1 σ (st_i (st_n σ 1 6) 66 0 1) := Fr.tz (Fr.n σ) (Fr.i _ _ (by decide))
/-- kinds of states -/
def R9 (σ : st_S) : Prop := ∃ S, gI σ 52 10 = nI S ∧ S ≤ 512 ∧ S ≤ gN σ 55 ∧ gN σ 55 ≤ 40000 ∧ gN σ 172 = 512 ∧ ∀ k, k < S → gE σ 55 k = gE σ 172 k
theorem stp_9 (qf : Qf Q) (hi : Inv Q L xs n σ) (hn : n + 6 ≤ L) (hL : L ≤ 3072) (hr : Rp σ) (h9 : R9 σ) (hk : xs n &&& 15 = 9) : Stq Q L xs n b σ := by
  obtain ⟨S, a1, a2, a3, a4, a5, a6⟩ := h9
  have a7 : gI σ 66 29 = nI S := hr.2.2.1.symm.trans a1
  by_cases h1 : xs (n + 1) < 0
  · refine ⟨b, _, hi.n0 qf (Fo.th σ 0) (by decide), fun q hq => ?_⟩
    cases b with
    | none => exact lh_9_0 (d := 14) (hs := hi.2.2.1) (hn := hn) (hL := hL) (c_1 := law_c hn hL) (c_2 := hk) (lw_9n_a0 (d := 12) (hs := hi.2.2.1) (hn := hn) (hL := hL) (c_1 := h1) (lq_0 (d := 14) hq))
    | some p => exact lh_9_1 (d := 14) (hs := hi.2.2.1) (hn := hn) (hL := hL) (c_1 := law_c hn hL) (c_2 := hk) (lw_9n_a1 (d := 12) (hs := hi.2.2.1) (hn := hn) (hL := hL) (c_1 := h1) (lq_1 (d := 14) hq))
  · obtain ⟨j, hj, e⟩ := nI_of h1
    by_cases h2 : j < S
    · refine ⟨b, _, hi.n0 qf (Fo.th σ 0) (by decide), fun q hq => ?_⟩
      cases b with
      | none => exact lh_9_0 (d := 14) (hs := hi.2.2.1) (hn := hn) (hL := hL) (c_1 := law_c hn hL) (c_2 := hk) (lw_9o_a0 (d := 12) (hs := hi.2.2.1) (hn := hn) (hL := hL) (c_1 := h1) (c_2 := by rw [show σ.1 52 10 = nI S from a1, e]; exact nI_ge h2 (by omega)) (c_3 := by rw [e]; exact vp_in_nI (by omega) (by omega)) (c_4 := by rw [show σ.1 66 29 = nI S from a7, e]; exact nI_ge h2 (by omega)) (c_5 := by rw [e, a5]; exact vp_in_nI (by omega) (by decide)) (c_6 := by rw [e, nI_clamp hj]; exact a6 j h2) (lq_0 (d := 14) hq))
      | some p => exact lh_9_1 (d := 14) (hs := hi.2.2.1) (hn := hn) (hL := hL) (c_1 := law_c hn hL) (c_2 := hk) (lw_9o_a1 (d := 12) (hs := hi.2.2.1) (hn := hn) (hL := hL) (c_1 := h1) (c_2 := by rw [show σ.1 52 10 = nI S from a1, e]; exact nI_ge h2 (by omega)) (c_3 := by rw [e]; exact vp_in_nI (by omega) (by omega)) (c_4 := by rw [show σ.1 66 29 = nI S from a7, e]; exact nI_ge h2 (by omega)) (c_5 := by rw [e, a5]; exact vp_in_nI (by omega) (by decide)) (c_6 := by rw [e, nI_clamp hj]; exact a6 j h2) (lq_1 (d := 14) hq))
    · refine ⟨b, _, hi.n0 qf (Fo.th σ 0) (by decide), fun q hq => ?_⟩
      cases b with
      | none => exact lh_9_0 (d := 14) (hs := hi.2.2.1) (hn := hn) (hL := hL) (c_1 := law_c hn hL) (c_2 := hk) (lw_9g_a0 (d := 12) (hs := hi.2.2.1) (hn := hn) (hL := hL) (c_1 := h1) (c_2 := by rw [show σ.1 52 10 = nI S from a1, e]; exact nI_le (by omega) hj) (c_3 := by rw [show σ.1 66 29 = nI S from a7, e]; exact nI_le (by omega) hj) (lq_0 (d := 14) hq))
      | some p => exact lh_9_1 (d := 14) (hs := hi.2.2.1) (hn := hn) (hL := hL) (c_1 := law_c hn hL) (c_2 := hk) (lw_9g_a1 (d := 12) (hs := hi.2.2.1) (hn := hn) (hL := hL) (c_1 := h1) (c_2 := by rw [show σ.1 52 10 = nI S from a1, e]; exact nI_le (by omega) hj) (c_3 := by rw [show σ.1 66 29 = nI S from a7, e]; exact nI_le (by omega) hj) (lq_1 (d := 14) hq))
/-- explore without a text -/
theorem stp_5n (qf : Qf Q) (hi : Inv Q L xs n σ) (hn : n + 6 ≤ L) (hL : L ≤ 3072) (hr : Rp σ) (h5 : gI σ 1 7 = 0) (hk : xs n &&& 15 = 5) : Stq Q L xs n b σ := by
  refine ⟨some (0, 1), _, hi.n0 qf (Fo.tn σ) (by decide), fun q hq => ?_⟩
  cases b with
  | none => exact lh_5_0 (d := 14) (hs := hi.2.2.1) (hn := hn) (hL := hL) (c_1 := law_c hn hL) (c_2 := hk) (lw_5n_a0 (d := 5) (hs := hi.2.2.1) (hn := hn) (hL := hL) (c_1 := fun q => q h5) (c_2 := hr.2.2.2.1.symm.trans h5) (lq_2 (d := 14) hq))
  | some p => exact lh_5_1 (d := 14) (hs := hi.2.2.1) (hn := hn) (hL := hL) (c_1 := law_c hn hL) (c_2 := hk) (lw_5n_a1 (d := 5) (hs := hi.2.2.1) (hn := hn) (hL := hL) (c_1 := fun q => q h5) (c_2 := hr.2.2.2.1.symm.trans h5) (lq_2 (d := 14) hq))
/-- the counts of items -/
def Ri (σ : st_S) : Prop := gI σ 1 7 ≠ 0 → (gR σ 1 5 = 4 ∧ gR σ 66 9 = 79 ∧ gI σ 4 7 = gI σ 79 12 ∧ gI σ 4 8 = gI σ 79 6 ∧ gI σ 4 10 = gI σ 79 18) ∨ (gR σ 1 5 = 20 ∧ gR σ 66 9 = 115 ∧ gI σ 20 7 = gI σ 115 12 ∧ gI σ 20 8 = gI σ 115 6 ∧ gI σ 20 10 = gI σ 115 18)
theorem sw3 {x : Int32} (h0 : ¬ x = 0) (h1 : ¬ x = 1) (h2 : ¬ x = 2) : x.toInt < 0 ∨ 2 < x.toInt := by
  by_cases h : x.toInt < 0
  · exact Or.inl h
  · refine Or.inr ?_
    have e : x.toInt ≠ 0 := fun e => h0 (Int32.toInt_inj.mp (e.trans (by decide)))
    have e1 : x.toInt ≠ 1 := fun e => h1 (Int32.toInt_inj.mp (e.trans (by decide)))
    have e2 : x.toInt ≠ 2 := fun e => h2 (Int32.toInt_inj.mp (e.trans (by decide)))
    omega
theorem stp_4 (qf : Qf Q) (hi : Inv Q L xs n σ) (hn : n + 6 ≤ L) (hL : L ≤ 3072) (hr : Rp σ) (h4 : Ri σ) (hk : xs n &&& 15 = 4) : Stq Q L xs n b σ := by
  by_cases h0 : gI σ 1 7 = 0
  · refine ⟨b, _, hi.n0 qf (Fo.th σ 0) (by decide), fun q hq => ?_⟩
    cases b with
    | none => exact lh_4_0 (d := 14) (hs := hi.2.2.1) (hn := hn) (hL := hL) (c_1 := law_c hn hL) (c_2 := hk) (lw_4n_a0 (d := 13) (hs := hi.2.2.1) (hn := hn) (hL := hL) (c_1 := fun q => q h0) (c_2 := fun q => q (hr.2.2.2.1.symm.trans h0)) (lq_0 (d := 14) hq))
    | some p => exact lh_4_1 (d := 14) (hs := hi.2.2.1) (hn := hn) (hL := hL) (c_1 := law_c hn hL) (c_2 := hk) (lw_4n_a1 (d := 13) (hs := hi.2.2.1) (hn := hn) (hL := hL) (c_1 := fun q => q h0) (c_2 := fun q => q (hr.2.2.2.1.symm.trans h0)) (lq_1 (d := 14) hq))
  · have h00 : ¬ gI σ 66 11 = 0 := fun e => h0 (hr.2.2.2.1.trans e)
    by_cases e0 : xs (n + 1) = 0
    · rcases h4 h0 with ⟨r1, r2, i1, i2, i3⟩ | ⟨r1, r2, i1, i2, i3⟩
      · refine ⟨b, _, hi.n0 qf (Fo.th σ 0) (by decide), fun q hq => ?_⟩
        cases b with
        | none => exact lh_4_0 (d := 14) (hs := hi.2.2.1) (hn := hn) (hL := hL) (c_1 := law_c hn hL) (c_2 := hk) (lw_40_a0 (d := 13) (hs := hi.2.2.1) (hn := hn) (hL := hL) (hr_1_5 := r1) (hr_66_9 := r2) (c_1 := h0) (c_2 := e0) (c_3 := h00) (c_4 := fun q => q e0) (c_5 := i1) (lq_0 (d := 14) hq))
        | some p => exact lh_4_1 (d := 14) (hs := hi.2.2.1) (hn := hn) (hL := hL) (c_1 := law_c hn hL) (c_2 := hk) (lw_40_a1 (d := 13) (hs := hi.2.2.1) (hn := hn) (hL := hL) (hr_1_5 := r1) (hr_66_9 := r2) (c_1 := h0) (c_2 := e0) (c_3 := h00) (c_4 := fun q => q e0) (c_5 := i1) (lq_1 (d := 14) hq))
      · refine ⟨b, _, hi.n0 qf (Fo.th σ 0) (by decide), fun q hq => ?_⟩
        cases b with
        | none => exact lh_4_0 (d := 14) (hs := hi.2.2.1) (hn := hn) (hL := hL) (c_1 := law_c hn hL) (c_2 := hk) (lw_40_b0 (d := 13) (hs := hi.2.2.1) (hn := hn) (hL := hL) (hr_1_5 := r1) (hr_66_9 := r2) (c_1 := h0) (c_2 := e0) (c_3 := h00) (c_4 := fun q => q e0) (c_5 := i1) (lq_0 (d := 14) hq))
        | some p => exact lh_4_1 (d := 14) (hs := hi.2.2.1) (hn := hn) (hL := hL) (c_1 := law_c hn hL) (c_2 := hk) (lw_40_b1 (d := 13) (hs := hi.2.2.1) (hn := hn) (hL := hL) (hr_1_5 := r1) (hr_66_9 := r2) (c_1 := h0) (c_2 := e0) (c_3 := h00) (c_4 := fun q => q e0) (c_5 := i1) (lq_1 (d := 14) hq))
    · by_cases e1 : xs (n + 1) = 1
      · rcases h4 h0 with ⟨r1, r2, i1, i2, i3⟩ | ⟨r1, r2, i1, i2, i3⟩
        · refine ⟨b, _, hi.n0 qf (Fo.th σ 0) (by decide), fun q hq => ?_⟩
          cases b with
          | none => exact lh_4_0 (d := 14) (hs := hi.2.2.1) (hn := hn) (hL := hL) (c_1 := law_c hn hL) (c_2 := hk) (lw_41_a0 (d := 13) (hs := hi.2.2.1) (hn := hn) (hL := hL) (hr_1_5 := r1) (hr_66_9 := r2) (c_1 := h0) (c_2 := e1) (c_3 := h00) (c_4 := e0) (c_5 := fun q => q e1) (c_6 := i2) (lq_0 (d := 14) hq))
          | some p => exact lh_4_1 (d := 14) (hs := hi.2.2.1) (hn := hn) (hL := hL) (c_1 := law_c hn hL) (c_2 := hk) (lw_41_a1 (d := 13) (hs := hi.2.2.1) (hn := hn) (hL := hL) (hr_1_5 := r1) (hr_66_9 := r2) (c_1 := h0) (c_2 := e1) (c_3 := h00) (c_4 := e0) (c_5 := fun q => q e1) (c_6 := i2) (lq_1 (d := 14) hq))
        · refine ⟨b, _, hi.n0 qf (Fo.th σ 0) (by decide), fun q hq => ?_⟩
          cases b with
          | none => exact lh_4_0 (d := 14) (hs := hi.2.2.1) (hn := hn) (hL := hL) (c_1 := law_c hn hL) (c_2 := hk) (lw_41_b0 (d := 13) (hs := hi.2.2.1) (hn := hn) (hL := hL) (hr_1_5 := r1) (hr_66_9 := r2) (c_1 := h0) (c_2 := e1) (c_3 := h00) (c_4 := e0) (c_5 := fun q => q e1) (c_6 := i2) (lq_0 (d := 14) hq))
          | some p => exact lh_4_1 (d := 14) (hs := hi.2.2.1) (hn := hn) (hL := hL) (c_1 := law_c hn hL) (c_2 := hk) (lw_41_b1 (d := 13) (hs := hi.2.2.1) (hn := hn) (hL := hL) (hr_1_5 := r1) (hr_66_9 := r2) (c_1 := h0) (c_2 := e1) (c_3 := h00) (c_4 := e0) (c_5 := fun q => q e1) (c_6 := i2) (lq_1 (d := 14) hq))
      · by_cases e2 : xs (n + 1) = 2
        · rcases h4 h0 with ⟨r1, r2, i1, i2, i3⟩ | ⟨r1, r2, i1, i2, i3⟩
          · refine ⟨b, _, hi.n0 qf (Fo.th σ 0) (by decide), fun q hq => ?_⟩
            cases b with
            | none => exact lh_4_0 (d := 14) (hs := hi.2.2.1) (hn := hn) (hL := hL) (c_1 := law_c hn hL) (c_2 := hk) (lw_42_a0 (d := 13) (hs := hi.2.2.1) (hn := hn) (hL := hL) (hr_1_5 := r1) (hr_66_9 := r2) (c_1 := h0) (c_2 := e2) (c_3 := h00) (c_4 := e0) (c_5 := e1) (c_6 := fun q => q e2) (c_7 := i3) (lq_0 (d := 14) hq))
            | some p => exact lh_4_1 (d := 14) (hs := hi.2.2.1) (hn := hn) (hL := hL) (c_1 := law_c hn hL) (c_2 := hk) (lw_42_a1 (d := 13) (hs := hi.2.2.1) (hn := hn) (hL := hL) (hr_1_5 := r1) (hr_66_9 := r2) (c_1 := h0) (c_2 := e2) (c_3 := h00) (c_4 := e0) (c_5 := e1) (c_6 := fun q => q e2) (c_7 := i3) (lq_1 (d := 14) hq))
          · refine ⟨b, _, hi.n0 qf (Fo.th σ 0) (by decide), fun q hq => ?_⟩
            cases b with
            | none => exact lh_4_0 (d := 14) (hs := hi.2.2.1) (hn := hn) (hL := hL) (c_1 := law_c hn hL) (c_2 := hk) (lw_42_b0 (d := 13) (hs := hi.2.2.1) (hn := hn) (hL := hL) (hr_1_5 := r1) (hr_66_9 := r2) (c_1 := h0) (c_2 := e2) (c_3 := h00) (c_4 := e0) (c_5 := e1) (c_6 := fun q => q e2) (c_7 := i3) (lq_0 (d := 14) hq))
            | some p => exact lh_4_1 (d := 14) (hs := hi.2.2.1) (hn := hn) (hL := hL) (c_1 := law_c hn hL) (c_2 := hk) (lw_42_b1 (d := 13) (hs := hi.2.2.1) (hn := hn) (hL := hL) (hr_1_5 := r1) (hr_66_9 := r2) (c_1 := h0) (c_2 := e2) (c_3 := h00) (c_4 := e0) (c_5 := e1) (c_6 := fun q => q e2) (c_7 := i3) (lq_1 (d := 14) hq))
        · refine ⟨b, _, hi.n0 qf (Fo.th σ 0) (by decide), fun q hq => ?_⟩
          cases b with
          | none => exact lh_4_0 (d := 14) (hs := hi.2.2.1) (hn := hn) (hL := hL) (c_1 := law_c hn hL) (c_2 := hk) (lw_4x_a0 (d := 13) (hs := hi.2.2.1) (hn := hn) (hL := hL) (c_1 := h0) (c_2 := sw3 e0 e1 e2) (c_3 := h00) (c_4 := e0) (c_5 := e1) (c_6 := e2) (lq_0 (d := 14) hq))
          | some p => exact lh_4_1 (d := 14) (hs := hi.2.2.1) (hn := hn) (hL := hL) (c_1 := law_c hn hL) (c_2 := hk) (lw_4x_a1 (d := 13) (hs := hi.2.2.1) (hn := hn) (hL := hL) (c_1 := h0) (c_2 := sw3 e0 e1 e2) (c_3 := h00) (c_4 := e0) (c_5 := e1) (c_6 := e2) (lq_1 (d := 14) hq))
end TURN
