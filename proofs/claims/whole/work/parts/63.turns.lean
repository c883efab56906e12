/-! TURNS OF THE LAW'S LOOP: feed, end. Written by wip/prog/gen_steps.py -/
section TURN2
variable {Q : st_S → Prop} {L n c : Nat} {xs : Nat → Int32} {σ σ' : st_S} {b : Option (Int32 × Int32)}
theorem lg_self (x : Int64) : lg_cmp x x = 0 := by
  unfold lg_cmp
  rw [if_neg (fun h => absurd h (Int64.lt_irrefl)), if_pos rfl]
set_option maxHeartbeats 4000000 in
theorem stp_0_67 (qf : Qf Q) (hi : Inv Q L xs n σ) (hn : n + 6 ≤ L) (hL : L ≤ 3072) (hq0 : gC σ + 500 < vz_M0) {l : List Int32} (ht : Ta σ 67 l) (hk : xs n &&& 15 = 0) : Stq Q L xs n b σ := by
  obtain ⟨a1, a2, a3, a4, a5, a6, a7, a8, a9, a10, a11⟩ := ht
  by_cases hlen : l.length + 20 ≤ 16384
  · obtain ⟨σ1, k1, t1, r1, c1, g1⟩ := feed_ok (d := 4) (a := xs (n + 1)) (b := xs (n + 2)) (c := xs (n + 3)) (e := xs (n + 4)) (f := xs (n + 5)) a4 hlen (by omega) a6
    have nB := r1.2.2.2.1 68 (by decide)
    have n1 : Nu σ1 67 68 l := a5.fr (r1.1 67 1 (by decide)) nB.1 nB.2
    have rr : gR σ1 66 1 = 67 := (r1.2.2.1 66 1 (by decide)).trans a1
    obtain ⟨σ2, k2, n2, r2, b2⟩ := rfeed_ok_67 (d := 4) (a := xs (n + 1)) (b := xs (n + 2)) (c := xs (n + 3)) (e := xs (n + 4)) (f := xs (n + 5)) n1 rr hlen (by rw [nB.1]; exact a7) (by omega)
    have m1 : Fs 0 σ σ1 := Fr.mo r1 (by decide) (by decide) (by decide) (by decide) (by decide)
    have m2 : Fs 0 σ1 σ2 := Fr.mo r2 (by decide) (by decide) (by decide) (by decide) (by decide)
    have n3 := r2.2.2.2.1 3 (by decide)
    rw [ap20_eq] at t1
    refine ⟨b, σ2, hi.nx qf (Fr.t0 m1 m2) (by decide) ⟨67, _, (r2.2.2.1 66 1 (by decide)).trans rr, Or.inl rfl, ?_, t1.fr (r2.1 2 1 (by decide)) n3.1 n3.2, n2, ?_, b2, by rw [(r2.2.2.2.1 70 (by decide)).1, (r1.2.2.2.1 70 (by decide)).1]; exact a8, n2.2.2.1, by rw [(r2.2.2.2.1 70 (by decide)).1, (r1.2.2.2.1 70 (by decide)).1]; exact a10, ap20_b a11⟩, fun q hq => ?_⟩
    · rw [ap20_len]; exact hlen
    · rw [n3.1]; exact c1
    cases b with
    | none => exact lh_0_0 (d := 14) (hs := hi.2.2.1) (hn := hn) (hL := hL) (c_1 := law_c hn hL) (c_2 := hk) (lw_0_0 (d := 4) (hs := hi.2.2.1) (hn := hn) (hL := hL) (hs1 := r1.2.2.2.2.2.1.trans hi.2.2.1) (k_1 := k1) (k_2 := k2) (c_3 := rfl) (lq_0 (d := 14) hq))
    | some p => exact lh_0_1 (d := 14) (hs := hi.2.2.1) (hn := hn) (hL := hL) (c_1 := law_c hn hL) (c_2 := hk) (lw_0_1 (d := 4) (hs := hi.2.2.1) (hn := hn) (hL := hL) (hs1 := r1.2.2.2.2.2.1.trans hi.2.2.1) (k_1 := k1) (k_2 := k2) (c_3 := rfl) (lq_1 (d := 14) hq))
  · have hc : ¬ (nI (l.length + 20) ≤ 16384) := fun e => hlen ((nI_leI (b := 16384) (by omega) (by decide)).mp e)
    refine ⟨b, _, hi.n0 qf (Fo.th σ 0) (by decide), fun q hq => ?_⟩
    cases b with
    | none => exact lh_0_0 (d := 14) (hs := hi.2.2.1) (hn := hn) (hL := hL) (c_1 := law_c hn hL) (c_2 := hk) (lw_0_0 (d := 4) (hs := hi.2.2.1) (hn := hn) (hL := hL) (hs1 := hi.2.2.1) (k_1 := feed_full (n := l.length) (hi_2_1 := a4.1) (c_1 := hc)) (k_2 := rfeed_full_67 (n := l.length) (hr_66_1 := a1) (hi_67_1 := a5.1) (c_1 := hc)) (c_3 := rfl) (lq_0 (d := 14) hq))
    | some p => exact lh_0_1 (d := 14) (hs := hi.2.2.1) (hn := hn) (hL := hL) (c_1 := law_c hn hL) (c_2 := hk) (lw_0_1 (d := 4) (hs := hi.2.2.1) (hn := hn) (hL := hL) (hs1 := hi.2.2.1) (k_1 := feed_full (n := l.length) (hi_2_1 := a4.1) (c_1 := hc)) (k_2 := rfeed_full_67 (n := l.length) (hr_66_1 := a1) (hi_67_1 := a5.1) (c_1 := hc)) (c_3 := rfl) (lq_1 (d := 14) hq))
set_option maxHeartbeats 4000000 in
theorem stp_0_69 (qf : Qf Q) (hi : Inv Q L xs n σ) (hn : n + 6 ≤ L) (hL : L ≤ 3072) (hq0 : gC σ + 500 < vz_M0) {l : List Int32} (ht : Ta σ 69 l) (hk : xs n &&& 15 = 0) : Stq Q L xs n b σ := by
  obtain ⟨a1, a2, a3, a4, a5, a6, a7, a8, a9, a10, a11⟩ := ht
  by_cases hlen : l.length + 20 ≤ 16384
  · obtain ⟨σ1, k1, t1, r1, c1, g1⟩ := feed_ok (d := 4) (a := xs (n + 1)) (b := xs (n + 2)) (c := xs (n + 3)) (e := xs (n + 4)) (f := xs (n + 5)) a4 hlen (by omega) a6
    have nB := r1.2.2.2.1 70 (by decide)
    have n1 : Nu σ1 69 70 l := a5.fr (r1.1 69 1 (by decide)) nB.1 nB.2
    have rr : gR σ1 66 1 = 69 := (r1.2.2.1 66 1 (by decide)).trans a1
    obtain ⟨σ2, k2, n2, r2, b2⟩ := rfeed_ok_69 (d := 4) (a := xs (n + 1)) (b := xs (n + 2)) (c := xs (n + 3)) (e := xs (n + 4)) (f := xs (n + 5)) n1 rr hlen (by rw [nB.1]; exact a8) (by omega)
    have m1 : Fs 0 σ σ1 := Fr.mo r1 (by decide) (by decide) (by decide) (by decide) (by decide)
    have m2 : Fs 0 σ1 σ2 := Fr.mo r2 (by decide) (by decide) (by decide) (by decide) (by decide)
    have n3 := r2.2.2.2.1 3 (by decide)
    rw [ap20_eq] at t1
    refine ⟨b, σ2, hi.nx qf (Fr.t0 m1 m2) (by decide) ⟨69, _, (r2.2.2.1 66 1 (by decide)).trans rr, Or.inr rfl, ?_, t1.fr (r2.1 2 1 (by decide)) n3.1 n3.2, n2, ?_, by rw [(r2.2.2.2.1 68 (by decide)).1, (r1.2.2.2.1 68 (by decide)).1]; exact a7, b2, by rw [(r2.2.2.2.1 68 (by decide)).1, (r1.2.2.2.1 68 (by decide)).1]; exact a9, n2.2.2.1, ap20_b a11⟩, fun q hq => ?_⟩
    · rw [ap20_len]; exact hlen
    · rw [n3.1]; exact c1
    cases b with
    | none => exact lh_0_0 (d := 14) (hs := hi.2.2.1) (hn := hn) (hL := hL) (c_1 := law_c hn hL) (c_2 := hk) (lw_0_0 (d := 4) (hs := hi.2.2.1) (hn := hn) (hL := hL) (hs1 := r1.2.2.2.2.2.1.trans hi.2.2.1) (k_1 := k1) (k_2 := k2) (c_3 := rfl) (lq_0 (d := 14) hq))
    | some p => exact lh_0_1 (d := 14) (hs := hi.2.2.1) (hn := hn) (hL := hL) (c_1 := law_c hn hL) (c_2 := hk) (lw_0_1 (d := 4) (hs := hi.2.2.1) (hn := hn) (hL := hL) (hs1 := r1.2.2.2.2.2.1.trans hi.2.2.1) (k_1 := k1) (k_2 := k2) (c_3 := rfl) (lq_1 (d := 14) hq))
  · have hc : ¬ (nI (l.length + 20) ≤ 16384) := fun e => hlen ((nI_leI (b := 16384) (by omega) (by decide)).mp e)
    refine ⟨b, _, hi.n0 qf (Fo.th σ 0) (by decide), fun q hq => ?_⟩
    cases b with
    | none => exact lh_0_0 (d := 14) (hs := hi.2.2.1) (hn := hn) (hL := hL) (c_1 := law_c hn hL) (c_2 := hk) (lw_0_0 (d := 4) (hs := hi.2.2.1) (hn := hn) (hL := hL) (hs1 := hi.2.2.1) (k_1 := feed_full (n := l.length) (hi_2_1 := a4.1) (c_1 := hc)) (k_2 := rfeed_full_69 (n := l.length) (hr_66_1 := a1) (hi_69_1 := a5.1) (c_1 := hc)) (c_3 := rfl) (lq_0 (d := 14) hq))
    | some p => exact lh_0_1 (d := 14) (hs := hi.2.2.1) (hn := hn) (hL := hL) (c_1 := law_c hn hL) (c_2 := hk) (lw_0_1 (d := 4) (hs := hi.2.2.1) (hn := hn) (hL := hL) (hs1 := hi.2.2.1) (k_1 := feed_full (n := l.length) (hi_2_1 := a4.1) (c_1 := hc)) (k_2 := rfeed_full_69 (n := l.length) (hr_66_1 := a1) (hi_69_1 := a5.1) (c_1 := hc)) (c_3 := rfl) (lq_1 (d := 14) hq))
set_option maxHeartbeats 4000000 in
theorem stp_1_67 (qf : Qf Q) (hi : Inv Q L xs n σ) (hn : n + 6 ≤ L) (hL : L ≤ 3072) (hr : Rp σ) {l : List Int32} (ht : Ta σ 67 l) (hk : xs n &&& 15 = 1) : Stq Q L xs n b σ := by
  obtain ⟨a1, a2, a3, a4, a5, a6, a7, a8, a9, a10, a11⟩ := ht
  by_cases h1 : xs (n + 1) < 0
  · refine ⟨some (0, 1), _, hi.n0 qf (Fo.tn σ) (by decide), fun q hq => ?_⟩
    cases b with
    | none => exact lh_1_0 (d := 14) (hs := hi.2.2.1) (hn := hn) (hL := hL) (c_1 := law_c hn hL) (c_2 := hk) (lw_1n_a0 (d := 5) (hs := hi.2.2.1) (hn := hn) (hL := hL) (c_1 := h1) (lq_2 (d := 14) hq))
    | some p => exact lh_1_1 (d := 14) (hs := hi.2.2.1) (hn := hn) (hL := hL) (c_1 := law_c hn hL) (c_2 := hk) (lw_1n_a1 (d := 5) (hs := hi.2.2.1) (hn := hn) (hL := hL) (c_1 := h1) (lq_2 (d := 14) hq))
  · by_cases h2 : xs (n + 1) ≤ 20
    · by_cases h3 : l.length < 20
      · refine ⟨some (0, 1), _, hi.n0 qf (Fo.tn σ) (by decide), fun q hq => ?_⟩
        cases b with
        | none => exact lh_1_0 (d := 14) (hs := hi.2.2.1) (hn := hn) (hL := hL) (c_1 := law_c hn hL) (c_2 := hk) (lw_1f_a0 (d := 5) (hs := hi.2.2.1) (hn := hn) (hL := hL) (hr_66_1 := a1) (c_1 := h1) (c_2 := h2) (c_3 := by rw [show σ.1 2 1 = nI l.length from a4.1]; exact nI_ge (b := 20) h3 (by decide)) (c_4 := Int32.not_lt.mpr h2) (c_5 := by rw [show σ.1 67 1 = nI l.length from a5.1]; exact nI_ge (b := 20) h3 (by decide)) (lq_2 (d := 14) hq))
        | some p => exact lh_1_1 (d := 14) (hs := hi.2.2.1) (hn := hn) (hL := hL) (c_1 := law_c hn hL) (c_2 := hk) (lw_1f_a1 (d := 5) (hs := hi.2.2.1) (hn := hn) (hL := hL) (hr_66_1 := a1) (c_1 := h1) (c_2 := h2) (c_3 := by rw [show σ.1 2 1 = nI l.length from a4.1]; exact nI_ge (b := 20) h3 (by decide)) (c_4 := Int32.not_lt.mpr h2) (c_5 := by rw [show σ.1 67 1 = nI l.length from a5.1]; exact nI_ge (b := 20) h3 (by decide)) (lq_2 (d := 14) hq))
      · obtain ⟨j, hj, e⟩ := nI_of h1
        have hj2 : j ≤ 20 := by
          rw [e] at h2
          exact (nI_leI (b := 20) (by omega) (by decide)).mp h2
        have v1 : gI σ 2 1 - 20 + xs (n + 1) = nI (l.length - 20 + j) := by
          rw [a4.1, e]
          show nI l.length - nI 20 + nI j = _
          rw [pk_sub (by omega), nI_add]
        have v2 : gI σ 67 1 - 20 + xs (n + 1) = nI (l.length - 20 + j) := by
          rw [a5.1, e]
          show nI l.length - nI 20 + nI j = _
          rw [pk_sub (by omega), nI_add]
        have hlen : (l.take (l.length - 20 + j)).length = l.length - 20 + j := by
          rw [List.length_take]
          omega
        have hpre : ∀ f : Nat → Int32, Pre f l → Pre f (l.take (l.length - 20 + j)) := by
          intro f hf i hi'
          rw [List.getElem_take]
          exact hf i (by omega)
        have fr : Fs 0 σ (st_i (st_i (st_E (st_i σ 2 1 (gI σ 2 1 - 20 + xs (n + 1))) 187 0 ((gI σ 2 1 - 20 + xs (n + 1) : Int32).toInt64)) 66 0 0) 67 1 (gI σ 67 1 - 20 + xs (n + 1))) := Fr.t0 (Fr.i _ _ (by decide)) (Fr.t0 (Fr.E _ _ _ (by decide)) (Fr.t0 (Fr.i _ _ (by decide)) (Fr.i _ _ (by decide))))
        have ta : Ta (st_i (st_i (st_E (st_i σ 2 1 (gI σ 2 1 - 20 + xs (n + 1))) 187 0 ((gI σ 2 1 - 20 + xs (n + 1) : Int32).toInt64)) 66 0 0) 67 1 (gI σ 67 1 - 20 + xs (n + 1))) 67 (l.take (l.length - 20 + j)) := by
          refine ⟨a1, Or.inl rfl, by rw [hlen]; omega, ⟨?_, ?_, a4.2.2.1, hpre _ a4.2.2.2⟩, ⟨?_, ?_, a5.2.2.1, hpre _ a5.2.2.2⟩, a6, a7, a8, a9, a10, fun c hc => a11 c (List.mem_of_mem_take hc)⟩
          · rw [hlen]
            show st_u (st_u (st_u (gI σ) 2 1 (gI σ 2 1 - 20 + xs (n + 1))) 66 0 0) 67 1 (gI σ 67 1 - 20 + xs (n + 1)) 2 1 = _
            rw [st_u_a _ _ _ _ (by decide), st_u_a _ _ _ _ (by decide), st_u_s]
            exact v1
          · rw [hlen]
            show _ ≤ gN σ 3
            have := a4.2.1
            omega
          · rw [hlen]
            show st_u (st_u (st_u (gI σ) 2 1 (gI σ 2 1 - 20 + xs (n + 1))) 66 0 0) 67 1 (gI σ 67 1 - 20 + xs (n + 1)) 67 1 = _
            rw [st_u_s]
            exact v2
          · rw [hlen]
            show _ ≤ gN σ 68
            have a9 : l.length ≤ gN σ 68 := a5.2.1
            omega
        refine ⟨some (gI σ 67 1 - 20 + xs (n + 1), 0), _, hi.nx qf fr (by decide) ⟨67, _, ta⟩, fun q hq => ?_⟩
        cases b with
        | none => exact lh_1_0 (d := 14) (hs := hi.2.2.1) (hn := hn) (hL := hL) (c_1 := law_c hn hL) (c_2 := hk) (lw_1o_a0 (d := 12) (hs := hi.2.2.1) (hn := hn) (hL := hL) (hr_66_1 := a1) (c_1 := h1) (c_2 := h2) (c_3 := by rw [show σ.1 2 1 = nI l.length from a4.1]; exact nI_le (a := 20) (by omega) (by omega)) (c_4 := by rw [hr.2.2.2.2]; exact vp_in_nI (n := 0) (by decide) (by decide)) (c_5 := Int32.not_lt.mpr h2) (c_6 := by rw [show σ.1 67 1 = nI l.length from a5.1]; exact nI_le (a := 20) (by omega) (by omega)) (c_7 := by rw [show (σ.1 2 1 - 20 + xs (n + 1) : Int32) = nI (l.length - 20 + j) from v1, show (σ.1 67 1 - 20 + xs (n + 1) : Int32) = nI (l.length - 20 + j) from v2]; exact lg_self _) (lq_2 (d := 14) hq))
        | some p => exact lh_1_1 (d := 14) (hs := hi.2.2.1) (hn := hn) (hL := hL) (c_1 := law_c hn hL) (c_2 := hk) (lw_1o_a1 (d := 12) (hs := hi.2.2.1) (hn := hn) (hL := hL) (hr_66_1 := a1) (c_1 := h1) (c_2 := h2) (c_3 := by rw [show σ.1 2 1 = nI l.length from a4.1]; exact nI_le (a := 20) (by omega) (by omega)) (c_4 := by rw [hr.2.2.2.2]; exact vp_in_nI (n := 0) (by decide) (by decide)) (c_5 := Int32.not_lt.mpr h2) (c_6 := by rw [show σ.1 67 1 = nI l.length from a5.1]; exact nI_le (a := 20) (by omega) (by omega)) (c_7 := by rw [show (σ.1 2 1 - 20 + xs (n + 1) : Int32) = nI (l.length - 20 + j) from v1, show (σ.1 67 1 - 20 + xs (n + 1) : Int32) = nI (l.length - 20 + j) from v2]; exact lg_self _) (lq_2 (d := 14) hq))
    · refine ⟨some (0, 1), _, hi.n0 qf (Fo.tn σ) (by decide), fun q hq => ?_⟩
      cases b with
      | none => exact lh_1_0 (d := 14) (hs := hi.2.2.1) (hn := hn) (hL := hL) (c_1 := law_c hn hL) (c_2 := hk) (lw_1g_a0 (d := 5) (hs := hi.2.2.1) (hn := hn) (hL := hL) (c_1 := h1) (c_2 := h2) (c_3 := Int32.not_le.mp h2) (lq_2 (d := 14) hq))
      | some p => exact lh_1_1 (d := 14) (hs := hi.2.2.1) (hn := hn) (hL := hL) (c_1 := law_c hn hL) (c_2 := hk) (lw_1g_a1 (d := 5) (hs := hi.2.2.1) (hn := hn) (hL := hL) (c_1 := h1) (c_2 := h2) (c_3 := Int32.not_le.mp h2) (lq_2 (d := 14) hq))
set_option maxHeartbeats 4000000 in
theorem stp_1_69 (qf : Qf Q) (hi : Inv Q L xs n σ) (hn : n + 6 ≤ L) (hL : L ≤ 3072) (hr : Rp σ) {l : List Int32} (ht : Ta σ 69 l) (hk : xs n &&& 15 = 1) : Stq Q L xs n b σ := by
  obtain ⟨a1, a2, a3, a4, a5, a6, a7, a8, a9, a10, a11⟩ := ht
  by_cases h1 : xs (n + 1) < 0
  · refine ⟨some (0, 1), _, hi.n0 qf (Fo.tn σ) (by decide), fun q hq => ?_⟩
    cases b with
    | none => exact lh_1_0 (d := 14) (hs := hi.2.2.1) (hn := hn) (hL := hL) (c_1 := law_c hn hL) (c_2 := hk) (lw_1n_a0 (d := 5) (hs := hi.2.2.1) (hn := hn) (hL := hL) (c_1 := h1) (lq_2 (d := 14) hq))
    | some p => exact lh_1_1 (d := 14) (hs := hi.2.2.1) (hn := hn) (hL := hL) (c_1 := law_c hn hL) (c_2 := hk) (lw_1n_a1 (d := 5) (hs := hi.2.2.1) (hn := hn) (hL := hL) (c_1 := h1) (lq_2 (d := 14) hq))
  · by_cases h2 : xs (n + 1) ≤ 20
    · by_cases h3 : l.length < 20
      · refine ⟨some (0, 1), _, hi.n0 qf (Fo.tn σ) (by decide), fun q hq => ?_⟩
        cases b with
        | none => exact lh_1_0 (d := 14) (hs := hi.2.2.1) (hn := hn) (hL := hL) (c_1 := law_c hn hL) (c_2 := hk) (lw_1f_b0 (d := 5) (hs := hi.2.2.1) (hn := hn) (hL := hL) (hr_66_1 := a1) (c_1 := h1) (c_2 := h2) (c_3 := by rw [show σ.1 2 1 = nI l.length from a4.1]; exact nI_ge (b := 20) h3 (by decide)) (c_4 := Int32.not_lt.mpr h2) (c_5 := by rw [show σ.1 69 1 = nI l.length from a5.1]; exact nI_ge (b := 20) h3 (by decide)) (lq_2 (d := 14) hq))
        | some p => exact lh_1_1 (d := 14) (hs := hi.2.2.1) (hn := hn) (hL := hL) (c_1 := law_c hn hL) (c_2 := hk) (lw_1f_b1 (d := 5) (hs := hi.2.2.1) (hn := hn) (hL := hL) (hr_66_1 := a1) (c_1 := h1) (c_2 := h2) (c_3 := by rw [show σ.1 2 1 = nI l.length from a4.1]; exact nI_ge (b := 20) h3 (by decide)) (c_4 := Int32.not_lt.mpr h2) (c_5 := by rw [show σ.1 69 1 = nI l.length from a5.1]; exact nI_ge (b := 20) h3 (by decide)) (lq_2 (d := 14) hq))
      · obtain ⟨j, hj, e⟩ := nI_of h1
        have hj2 : j ≤ 20 := by
          rw [e] at h2
          exact (nI_leI (b := 20) (by omega) (by decide)).mp h2
        have v1 : gI σ 2 1 - 20 + xs (n + 1) = nI (l.length - 20 + j) := by
          rw [a4.1, e]
          show nI l.length - nI 20 + nI j = _
          rw [pk_sub (by omega), nI_add]
        have v2 : gI σ 69 1 - 20 + xs (n + 1) = nI (l.length - 20 + j) := by
          rw [a5.1, e]
          show nI l.length - nI 20 + nI j = _
          rw [pk_sub (by omega), nI_add]
        have hlen : (l.take (l.length - 20 + j)).length = l.length - 20 + j := by
          rw [List.length_take]
          omega
        have hpre : ∀ f : Nat → Int32, Pre f l → Pre f (l.take (l.length - 20 + j)) := by
          intro f hf i hi'
          rw [List.getElem_take]
          exact hf i (by omega)
        have fr : Fs 0 σ (st_i (st_i (st_E (st_i σ 2 1 (gI σ 2 1 - 20 + xs (n + 1))) 187 0 ((gI σ 2 1 - 20 + xs (n + 1) : Int32).toInt64)) 66 0 0) 69 1 (gI σ 69 1 - 20 + xs (n + 1))) := Fr.t0 (Fr.i _ _ (by decide)) (Fr.t0 (Fr.E _ _ _ (by decide)) (Fr.t0 (Fr.i _ _ (by decide)) (Fr.i _ _ (by decide))))
        have ta : Ta (st_i (st_i (st_E (st_i σ 2 1 (gI σ 2 1 - 20 + xs (n + 1))) 187 0 ((gI σ 2 1 - 20 + xs (n + 1) : Int32).toInt64)) 66 0 0) 69 1 (gI σ 69 1 - 20 + xs (n + 1))) 69 (l.take (l.length - 20 + j)) := by
          refine ⟨a1, Or.inr rfl, by rw [hlen]; omega, ⟨?_, ?_, a4.2.2.1, hpre _ a4.2.2.2⟩, ⟨?_, ?_, a5.2.2.1, hpre _ a5.2.2.2⟩, a6, a7, a8, a9, a10, fun c hc => a11 c (List.mem_of_mem_take hc)⟩
          · rw [hlen]
            show st_u (st_u (st_u (gI σ) 2 1 (gI σ 2 1 - 20 + xs (n + 1))) 66 0 0) 69 1 (gI σ 69 1 - 20 + xs (n + 1)) 2 1 = _
            rw [st_u_a _ _ _ _ (by decide), st_u_a _ _ _ _ (by decide), st_u_s]
            exact v1
          · rw [hlen]
            show _ ≤ gN σ 3
            have := a4.2.1
            omega
          · rw [hlen]
            show st_u (st_u (st_u (gI σ) 2 1 (gI σ 2 1 - 20 + xs (n + 1))) 66 0 0) 69 1 (gI σ 69 1 - 20 + xs (n + 1)) 69 1 = _
            rw [st_u_s]
            exact v2
          · rw [hlen]
            show _ ≤ gN σ 70
            have a9 : l.length ≤ gN σ 70 := a5.2.1
            omega
        refine ⟨some (gI σ 69 1 - 20 + xs (n + 1), 0), _, hi.nx qf fr (by decide) ⟨69, _, ta⟩, fun q hq => ?_⟩
        cases b with
        | none => exact lh_1_0 (d := 14) (hs := hi.2.2.1) (hn := hn) (hL := hL) (c_1 := law_c hn hL) (c_2 := hk) (lw_1o_b0 (d := 12) (hs := hi.2.2.1) (hn := hn) (hL := hL) (hr_66_1 := a1) (c_1 := h1) (c_2 := h2) (c_3 := by rw [show σ.1 2 1 = nI l.length from a4.1]; exact nI_le (a := 20) (by omega) (by omega)) (c_4 := by rw [hr.2.2.2.2]; exact vp_in_nI (n := 0) (by decide) (by decide)) (c_5 := Int32.not_lt.mpr h2) (c_6 := by rw [show σ.1 69 1 = nI l.length from a5.1]; exact nI_le (a := 20) (by omega) (by omega)) (c_7 := by rw [show (σ.1 2 1 - 20 + xs (n + 1) : Int32) = nI (l.length - 20 + j) from v1, show (σ.1 69 1 - 20 + xs (n + 1) : Int32) = nI (l.length - 20 + j) from v2]; exact lg_self _) (lq_2 (d := 14) hq))
        | some p => exact lh_1_1 (d := 14) (hs := hi.2.2.1) (hn := hn) (hL := hL) (c_1 := law_c hn hL) (c_2 := hk) (lw_1o_b1 (d := 12) (hs := hi.2.2.1) (hn := hn) (hL := hL) (hr_66_1 := a1) (c_1 := h1) (c_2 := h2) (c_3 := by rw [show σ.1 2 1 = nI l.length from a4.1]; exact nI_le (a := 20) (by omega) (by omega)) (c_4 := by rw [hr.2.2.2.2]; exact vp_in_nI (n := 0) (by decide) (by decide)) (c_5 := Int32.not_lt.mpr h2) (c_6 := by rw [show σ.1 69 1 = nI l.length from a5.1]; exact nI_le (a := 20) (by omega) (by omega)) (c_7 := by rw [show (σ.1 2 1 - 20 + xs (n + 1) : Int32) = nI (l.length - 20 + j) from v1, show (σ.1 69 1 - 20 + xs (n + 1) : Int32) = nI (l.length - 20 + j) from v2]; exact lg_self _) (lq_2 (d := 14) hq))
    · refine ⟨some (0, 1), _, hi.n0 qf (Fo.tn σ) (by decide), fun q hq => ?_⟩
      cases b with
      | none => exact lh_1_0 (d := 14) (hs := hi.2.2.1) (hn := hn) (hL := hL) (c_1 := law_c hn hL) (c_2 := hk) (lw_1g_a0 (d := 5) (hs := hi.2.2.1) (hn := hn) (hL := hL) (c_1 := h1) (c_2 := h2) (c_3 := Int32.not_le.mp h2) (lq_2 (d := 14) hq))
      | some p => exact lh_1_1 (d := 14) (hs := hi.2.2.1) (hn := hn) (hL := hL) (c_1 := law_c hn hL) (c_2 := hk) (lw_1g_a1 (d := 5) (hs := hi.2.2.1) (hn := hn) (hL := hL) (c_1 := h1) (c_2 := h2) (c_3 := Int32.not_le.mp h2) (lq_2 (d := 14) hq))
end TURN2
