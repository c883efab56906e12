/-! TURNS OF THE LAW'S LOOP: variable; and what is left: compile and explore. Written by wip/prog/gen_graph.py -/
section TURN4
variable {Q : st_S → Prop} {L n c : Nat} {xs : Nat → Int32} {σ σ' : st_S} {b : Option (Int32 × Int32)}
/-- the values of the vars in the states -/
def Rv (σ : st_S) : Prop := ∃ S V : Nat, gI σ 52 10 = nI S ∧ S ≤ 512 ∧ gI σ 52 9 = nI V ∧ V ≤ 12 ∧ 12 * S ≤ gN σ 54 ∧ gN σ 54 ≤ 40000 ∧ gN σ 171 = 6144 ∧ (0 < S → (gR σ 66 9 = 79 ∧ gI σ 79 12 = nI V) ∨ (gR σ 66 9 = 115 ∧ gI σ 115 12 = nI V)) ∧ ∀ k, k < S → ∀ v, v < V → gE σ 54 (k * 12 + v) = gE σ 171 (12 * k + v)
set_option maxHeartbeats 4000000 in
theorem stp_8 (qf : Qf Q) (hi : Inv Q L xs n σ) (hn : n + 6 ≤ L) (hL : L ≤ 3072) (hr : Rp σ) (hv : Rv σ) (hk : xs n &&& 15 = 8) : Stq Q L xs n b σ := by
  obtain ⟨S, V, a1, a2, a3, a4, a5, a6, a7, a8, a9⟩ := hv
  have a0 : gI σ 66 29 = nI S := hr.2.2.1.symm.trans a1
  by_cases h1 : xs (n + 1) < 0
  · refine ⟨some (0, 1), _, hi.n0 qf (Fo.tn σ) (by decide), fun q hq => ?_⟩
    cases b with
    | none => exact lh_8_0 (d := 14) (hs := hi.2.2.1) (hn := hn) (hL := hL) (c_1 := law_c hn hL) (c_2 := hk) (lw_8n_a0 (d := 5) (hs := hi.2.2.1) (hn := hn) (hL := hL) (c_1 := h1) (lq_2 (d := 14) hq))
    | some p => exact lh_8_1 (d := 14) (hs := hi.2.2.1) (hn := hn) (hL := hL) (c_1 := law_c hn hL) (c_2 := hk) (lw_8n_a1 (d := 5) (hs := hi.2.2.1) (hn := hn) (hL := hL) (c_1 := h1) (lq_2 (d := 14) hq))
  · obtain ⟨j, hj, e1⟩ := nI_of h1
    by_cases hS : j < S
    · by_cases h2 : xs (n + 2) < 0
      · refine ⟨some (0, 1), _, hi.n0 qf (Fo.tn σ) (by decide), fun q hq => ?_⟩
        cases b with
        | none => exact lh_8_0 (d := 14) (hs := hi.2.2.1) (hn := hn) (hL := hL) (c_1 := law_c hn hL) (c_2 := hk) (lw_8m_a0 (d := 5) (hs := hi.2.2.1) (hn := hn) (hL := hL) (c_1 := h1) (c_2 := (by rw [show σ.1 52 10 = nI S from a1, e1]; exact nI_ge hS (by omega))) (c_3 := h2) (c_4 := (by rw [show σ.1 66 29 = nI S from a0, e1]; exact nI_ge hS (by omega))) (lq_2 (d := 14) hq))
        | some p => exact lh_8_1 (d := 14) (hs := hi.2.2.1) (hn := hn) (hL := hL) (c_1 := law_c hn hL) (c_2 := hk) (lw_8m_a1 (d := 5) (hs := hi.2.2.1) (hn := hn) (hL := hL) (c_1 := h1) (c_2 := (by rw [show σ.1 52 10 = nI S from a1, e1]; exact nI_ge hS (by omega))) (c_3 := h2) (c_4 := (by rw [show σ.1 66 29 = nI S from a0, e1]; exact nI_ge hS (by omega))) (lq_2 (d := 14) hq))
      · obtain ⟨i, hii, e2⟩ := nI_of h2
        have i1 : (xs (n + 1)) * 12 + (xs (n + 2)) = nI (j * 12 + i) := by
          rw [e1, e2]
          show nI j * nI 12 + nI i = _
          rw [pk_mul, nI_add]
        have i2 : 12 * (xs (n + 1)) + (xs (n + 2)) = nI (12 * j + i) := by
          rw [e1, e2]
          show nI 12 * nI j + nI i = _
          rw [pk_mul, nI_add]
        by_cases hV : i < V
        · have fr : Fo 0 σ (st_i (st_E σ 187 0 ((gE σ 54 (((((xs (n + 1)) * 12) + (xs (n + 2)))).toNatClampNeg)) : Int32).toInt64) 66 0 0) := Fr.t0 (Fr.E _ _ _ (by decide)) (Fr.i _ _ (by decide))
          rcases a8 (by omega) with ⟨r1, r2⟩ | ⟨r1, r2⟩
          · refine ⟨some ((gE σ 171 ((((12 * (xs (n + 1))) + (xs (n + 2)))).toNatClampNeg)), 0), _, hi.n0 qf fr (by decide), fun q hq => ?_⟩
            cases b with
            | none => exact lh_8_0 (d := 14) (hs := hi.2.2.1) (hn := hn) (hL := hL) (c_1 := law_c hn hL) (c_2 := hk) (lw_8o_a0 (d := 11) (hs := hi.2.2.1) (hn := hn) (hL := hL) (hr_66_9 := r1) (c_1 := h1) (c_2 := (by rw [show σ.1 52 10 = nI S from a1, e1]; exact nI_ge hS (by omega))) (c_3 := h2) (c_4 := (by rw [show σ.1 52 9 = nI V from a3, e2]; exact nI_lt hV (by omega))) (c_5 := (by rw [i1]; exact vp_in_nI (by omega) (by omega))) (c_6 := (by rw [hr.2.2.2.2]; exact vp_in_nI (n := 0) (by decide) (by decide))) (c_7 := (by rw [show σ.1 66 29 = nI S from a0, e1]; exact nI_ge hS (by omega))) (c_8 := (by rw [show σ.1 79 12 = nI V from r2, e2]; exact nI_lt hV (by omega))) (c_9 := (by rw [i2, a7]; exact vp_in_nI (by omega) (by decide))) (c_10 := (by rw [i1, i2, nI_clamp (n := j * 12 + i) (by omega), nI_clamp (n := 12 * j + i) (by omega), a9 j hS i hV]; exact lg_self _)) (lq_2 (d := 14) hq))
            | some p => exact lh_8_1 (d := 14) (hs := hi.2.2.1) (hn := hn) (hL := hL) (c_1 := law_c hn hL) (c_2 := hk) (lw_8o_a1 (d := 11) (hs := hi.2.2.1) (hn := hn) (hL := hL) (hr_66_9 := r1) (c_1 := h1) (c_2 := (by rw [show σ.1 52 10 = nI S from a1, e1]; exact nI_ge hS (by omega))) (c_3 := h2) (c_4 := (by rw [show σ.1 52 9 = nI V from a3, e2]; exact nI_lt hV (by omega))) (c_5 := (by rw [i1]; exact vp_in_nI (by omega) (by omega))) (c_6 := (by rw [hr.2.2.2.2]; exact vp_in_nI (n := 0) (by decide) (by decide))) (c_7 := (by rw [show σ.1 66 29 = nI S from a0, e1]; exact nI_ge hS (by omega))) (c_8 := (by rw [show σ.1 79 12 = nI V from r2, e2]; exact nI_lt hV (by omega))) (c_9 := (by rw [i2, a7]; exact vp_in_nI (by omega) (by decide))) (c_10 := (by rw [i1, i2, nI_clamp (n := j * 12 + i) (by omega), nI_clamp (n := 12 * j + i) (by omega), a9 j hS i hV]; exact lg_self _)) (lq_2 (d := 14) hq))
          · refine ⟨some ((gE σ 171 ((((12 * (xs (n + 1))) + (xs (n + 2)))).toNatClampNeg)), 0), _, hi.n0 qf fr (by decide), fun q hq => ?_⟩
            cases b with
            | none => exact lh_8_0 (d := 14) (hs := hi.2.2.1) (hn := hn) (hL := hL) (c_1 := law_c hn hL) (c_2 := hk) (lw_8o_b0 (d := 11) (hs := hi.2.2.1) (hn := hn) (hL := hL) (hr_66_9 := r1) (c_1 := h1) (c_2 := (by rw [show σ.1 52 10 = nI S from a1, e1]; exact nI_ge hS (by omega))) (c_3 := h2) (c_4 := (by rw [show σ.1 52 9 = nI V from a3, e2]; exact nI_lt hV (by omega))) (c_5 := (by rw [i1]; exact vp_in_nI (by omega) (by omega))) (c_6 := (by rw [hr.2.2.2.2]; exact vp_in_nI (n := 0) (by decide) (by decide))) (c_7 := (by rw [show σ.1 66 29 = nI S from a0, e1]; exact nI_ge hS (by omega))) (c_8 := (by rw [show σ.1 115 12 = nI V from r2, e2]; exact nI_lt hV (by omega))) (c_9 := (by rw [i2, a7]; exact vp_in_nI (by omega) (by decide))) (c_10 := (by rw [i1, i2, nI_clamp (n := j * 12 + i) (by omega), nI_clamp (n := 12 * j + i) (by omega), a9 j hS i hV]; exact lg_self _)) (lq_2 (d := 14) hq))
            | some p => exact lh_8_1 (d := 14) (hs := hi.2.2.1) (hn := hn) (hL := hL) (c_1 := law_c hn hL) (c_2 := hk) (lw_8o_b1 (d := 11) (hs := hi.2.2.1) (hn := hn) (hL := hL) (hr_66_9 := r1) (c_1 := h1) (c_2 := (by rw [show σ.1 52 10 = nI S from a1, e1]; exact nI_ge hS (by omega))) (c_3 := h2) (c_4 := (by rw [show σ.1 52 9 = nI V from a3, e2]; exact nI_lt hV (by omega))) (c_5 := (by rw [i1]; exact vp_in_nI (by omega) (by omega))) (c_6 := (by rw [hr.2.2.2.2]; exact vp_in_nI (n := 0) (by decide) (by decide))) (c_7 := (by rw [show σ.1 66 29 = nI S from a0, e1]; exact nI_ge hS (by omega))) (c_8 := (by rw [show σ.1 115 12 = nI V from r2, e2]; exact nI_lt hV (by omega))) (c_9 := (by rw [i2, a7]; exact vp_in_nI (by omega) (by decide))) (c_10 := (by rw [i1, i2, nI_clamp (n := j * 12 + i) (by omega), nI_clamp (n := 12 * j + i) (by omega), a9 j hS i hV]; exact lg_self _)) (lq_2 (d := 14) hq))
        · rcases a8 (by omega) with ⟨r1, r2⟩ | ⟨r1, r2⟩
          · refine ⟨some (0, 1), _, hi.n0 qf (Fo.tn σ) (by decide), fun q hq => ?_⟩
            cases b with
            | none => exact lh_8_0 (d := 14) (hs := hi.2.2.1) (hn := hn) (hL := hL) (c_1 := law_c hn hL) (c_2 := hk) (lw_8h_a0 (d := 5) (hs := hi.2.2.1) (hn := hn) (hL := hL) (hr_66_9 := r1) (c_1 := h1) (c_2 := (by rw [show σ.1 52 10 = nI S from a1, e1]; exact nI_ge hS (by omega))) (c_3 := h2) (c_4 := (by rw [show σ.1 52 9 = nI V from a3, e2]; exact nI_nlt (by omega) (by omega))) (c_5 := (by rw [show σ.1 66 29 = nI S from a0, e1]; exact nI_ge hS (by omega))) (c_6 := (by rw [show σ.1 79 12 = nI V from r2, e2]; exact nI_nlt (by omega) (by omega))) (lq_2 (d := 14) hq))
            | some p => exact lh_8_1 (d := 14) (hs := hi.2.2.1) (hn := hn) (hL := hL) (c_1 := law_c hn hL) (c_2 := hk) (lw_8h_a1 (d := 5) (hs := hi.2.2.1) (hn := hn) (hL := hL) (hr_66_9 := r1) (c_1 := h1) (c_2 := (by rw [show σ.1 52 10 = nI S from a1, e1]; exact nI_ge hS (by omega))) (c_3 := h2) (c_4 := (by rw [show σ.1 52 9 = nI V from a3, e2]; exact nI_nlt (by omega) (by omega))) (c_5 := (by rw [show σ.1 66 29 = nI S from a0, e1]; exact nI_ge hS (by omega))) (c_6 := (by rw [show σ.1 79 12 = nI V from r2, e2]; exact nI_nlt (by omega) (by omega))) (lq_2 (d := 14) hq))
          · refine ⟨some (0, 1), _, hi.n0 qf (Fo.tn σ) (by decide), fun q hq => ?_⟩
            cases b with
            | none => exact lh_8_0 (d := 14) (hs := hi.2.2.1) (hn := hn) (hL := hL) (c_1 := law_c hn hL) (c_2 := hk) (lw_8h_b0 (d := 5) (hs := hi.2.2.1) (hn := hn) (hL := hL) (hr_66_9 := r1) (c_1 := h1) (c_2 := (by rw [show σ.1 52 10 = nI S from a1, e1]; exact nI_ge hS (by omega))) (c_3 := h2) (c_4 := (by rw [show σ.1 52 9 = nI V from a3, e2]; exact nI_nlt (by omega) (by omega))) (c_5 := (by rw [show σ.1 66 29 = nI S from a0, e1]; exact nI_ge hS (by omega))) (c_6 := (by rw [show σ.1 115 12 = nI V from r2, e2]; exact nI_nlt (by omega) (by omega))) (lq_2 (d := 14) hq))
            | some p => exact lh_8_1 (d := 14) (hs := hi.2.2.1) (hn := hn) (hL := hL) (c_1 := law_c hn hL) (c_2 := hk) (lw_8h_b1 (d := 5) (hs := hi.2.2.1) (hn := hn) (hL := hL) (hr_66_9 := r1) (c_1 := h1) (c_2 := (by rw [show σ.1 52 10 = nI S from a1, e1]; exact nI_ge hS (by omega))) (c_3 := h2) (c_4 := (by rw [show σ.1 52 9 = nI V from a3, e2]; exact nI_nlt (by omega) (by omega))) (c_5 := (by rw [show σ.1 66 29 = nI S from a0, e1]; exact nI_ge hS (by omega))) (c_6 := (by rw [show σ.1 115 12 = nI V from r2, e2]; exact nI_nlt (by omega) (by omega))) (lq_2 (d := 14) hq))
    · refine ⟨some (0, 1), _, hi.n0 qf (Fo.tn σ) (by decide), fun q hq => ?_⟩
      cases b with
      | none => exact lh_8_0 (d := 14) (hs := hi.2.2.1) (hn := hn) (hL := hL) (c_1 := law_c hn hL) (c_2 := hk) (lw_8g_a0 (d := 5) (hs := hi.2.2.1) (hn := hn) (hL := hL) (c_1 := h1) (c_2 := (by rw [show σ.1 52 10 = nI S from a1, e1]; exact nI_le (by omega) hj)) (c_3 := (by rw [show σ.1 66 29 = nI S from a0, e1]; exact nI_le (by omega) hj)) (lq_2 (d := 14) hq))
      | some p => exact lh_8_1 (d := 14) (hs := hi.2.2.1) (hn := hn) (hL := hL) (c_1 := law_c hn hL) (c_2 := hk) (lw_8g_a1 (d := 5) (hs := hi.2.2.1) (hn := hn) (hL := hL) (c_1 := h1) (c_2 := (by rw [show σ.1 52 10 = nI S from a1, e1]; exact nI_le (by omega) hj)) (c_3 := (by rw [show σ.1 66 29 = nI S from a0, e1]; exact nI_le (by omega) hj)) (lq_2 (d := 14) hq))
/-- THE WHOLE CLAIM out of something Q that is kept, with turns for compile and explore -/
theorem ends_ce (q1 : Qf Q) (q2 : ∀ L xs, Q (s0 L xs)) (q3 : ∀ σ, Q σ → Rp σ ∧ R9 σ ∧ Ri σ ∧ Rg σ ∧ Rv σ) (q4 : ∀ σ, Q σ → Ph σ ≤ 2900000 + gN σ 3 + gN σ 68 + gN σ 70) (t2 : Qt Q 2) (t5 : Qx Q) : ∀ (L : Nat) (xs : Nat → Int32), L ≤ 3072 → ∃ (n : Nat) (μ : vz_H), vz_run P0 n 15 0 0 [(0, .ref 0)] [] (vs_0 L xs) = some (.inl (some (.int 1)), μ) ∧ μ.2.2.1 ≤ 600000 ∧ μ.2.2.2 ≤ 7000000 := by
  have k3 : ∀ σ, Q σ → Rp σ ∧ R9 σ ∧ Ri σ := fun σ h => ⟨(q3 σ h).1, (q3 σ h).2.1, (q3 σ h).2.2.1⟩
  intro L xs hL
  refine ends_of q1 q2 k3 q4 t2 t5 ?_ ?_ ?_ ?_ ?_ L xs hL
  · exact fun L xs n b σ hi _ hn hL hk => stp_8 q1 hi hn hL (q3 σ hi.1).1 (q3 σ hi.1).2.2.2.2 hk
  · exact fun L xs n b σ hi _ hn hL hk => stp_10 q1 hi hn hL (q3 σ hi.1).1 (q3 σ hi.1).2.2.2.1 hk
  · exact fun L xs n b σ hi _ hn hL hk => stp_11 q1 hi hn hL (q3 σ hi.1).1 (q3 σ hi.1).2.2.2.1 hk
  · exact fun L xs n b σ hi _ hn hL hk => stp_12 q1 hi hn hL (q3 σ hi.1).1 (q3 σ hi.1).2.2.2.1 hk
  · exact fun L xs n b σ hi _ hn hL hk => stp_13 q1 hi hn hL (q3 σ hi.1).1 (q3 σ hi.1).2.2.2.1 hk
end TURN4
