/-! skipBlanks: to the end of blanks and notes -/
set_option maxHeartbeats 4000000 in
theorem sb_loop {d : Nat} {σ : st_S} {l : List Int32} (h : Tp σ l) (hb : l.length ≤ 16384) (hc : gN σ 3 ≤ 32768) : ∀ (f i : Nat) (m : Bool) (lv : vz_L), i ≤ l.length → l.length ≤ i + f → vz_g lv 0 = some (.ref 2) → vz_g lv 1 = some (.int (bI m)) → vz_nbL (vz_gr P0) lv = true → vz_ev P0 (d + 1) 18 2 lv [] (hp (st_i σ 2 2 (nI i))) (.inl none, hp (st_i σ 2 2 (nI (sk l f m i)))) := by
  obtain ⟨a1, a2, a3, a4⟩ := h
  have e1 : ∀ i, gI (st_i σ 2 2 (nI i)) 2 1 = nI l.length := fun i => (show st_u (gI σ) 2 2 (nI i) 2 1 = gI σ 2 1 from st_u_k _ _ _ _ (by decide)).trans a1
  intro f
  induction f with
  | zero =>
    intro i m lv h1 h2 g0 g1 gn
    exact sb_end (n := l.length) (i := i) (by omega) (by omega) g0 g1 gn (hi_2_2 := st_i_s _ _ _ _) (hi_2_1 := e1 i) (c_1 := nI_le (by omega) (by omega))
  | succ f ih =>
    intro i m lv h1 h2 g0 g1 gn
    by_cases hlt : i < l.length
    · have hl : l[i]? = some l[i] := List.getElem?_eq_getElem hlt
      have hE : gE (st_i σ 2 2 (nI i)) 3 i = l[i] := a4 i hlt
      have c1 : ¬ (nI l.length ≤ nI i) := nI_ge hlt (by omega)
      have c2 : vp_in (nI i) (gN (st_i σ 2 2 (nI i)) 3) := vp_in_nI (show i < gN σ 3 by omega) (show gN σ 3 < 2 ^ 31 by omega)
      unfold sk
      rw [hl]
      dsimp only
      cases m with
      | true =>
        rw [if_pos rfl]
        by_cases c10 : l[i] = 10
        · refine sb_nl (n := l.length) (i := i) (by omega) (by omega) g0 g1 gn (hi_2_2 := st_i_s _ _ _ _) (hi_2_1 := e1 i) (c_1 := c1) (c_2 := c2) (c_3 := by decide) (c_4 := hE.trans c10) fun lv' k0 k1 kn => ?_
          refine ev_hs (st_i_i σ 2 2 _ _) ?_
          rw [decide_eq_true c10]
          exact ih (i + 1) false lv' (by omega) (by omega) k0 k1 kn
        · refine sb_note (n := l.length) (i := i) (by omega) (by omega) g0 g1 gn (hi_2_2 := st_i_s _ _ _ _) (hi_2_1 := e1 i) (c_1 := c1) (c_2 := c2) (c_3 := by decide) (c_4 := by rw [hE]; exact c10) fun lv' k0 k1 kn => ?_
          refine ev_hs (st_i_i σ 2 2 _ _) ?_
          rw [decide_eq_false c10]
          exact ih (i + 1) true lv' (by omega) (by omega) k0 k1 kn
      | false =>
        rw [if_neg Bool.false_ne_true]
        by_cases c35 : l[i] = 35
        · rw [if_pos c35]
          refine sb_hash (n := l.length) (i := i) (by omega) (by omega) g0 g1 gn (hi_2_2 := st_i_s _ _ _ _) (hi_2_1 := e1 i) (c_1 := c1) (c_2 := c2) (c_3 := by decide) (c_4 := fun q => q (hE.trans c35)) fun lv' k0 k1 kn => ?_
          refine ev_hs (st_i_i σ 2 2 _ _) ?_
          exact ih (i + 1) true lv' (by omega) (by omega) k0 k1 kn
        · rw [if_neg c35]
          by_cases c9 : l[i] = 9
          · rw [if_pos (show isBl l[i] = true by rw [c9]; decide)]
            refine sb_9 (n := l.length) (i := i) (by omega) (by omega) g0 g1 gn (hi_2_2 := st_i_s _ _ _ _) (hi_2_1 := e1 i) (c_1 := c1) (c_2 := c2) (c_3 := by decide) (c_4 := by rw [hE]; exact c35) (c_5 := hE.trans c9) fun lv' k0 k1 kn => ?_
            refine ev_hs (st_i_i σ 2 2 _ _) ?_
            exact ih (i + 1) false lv' (by omega) (by omega) k0 k1 kn
          · by_cases c10 : l[i] = 10
            · rw [if_pos (show isBl l[i] = true by rw [c10]; decide)]
              refine sb_10 (n := l.length) (i := i) (by omega) (by omega) g0 g1 gn (hi_2_2 := st_i_s _ _ _ _) (hi_2_1 := e1 i) (c_1 := c1) (c_2 := c2) (c_3 := by decide) (c_4 := by rw [hE]; exact c35) (c_5 := by rw [hE]; exact c9) (c_6 := hE.trans c10) fun lv' k0 k1 kn => ?_
              refine ev_hs (st_i_i σ 2 2 _ _) ?_
              exact ih (i + 1) false lv' (by omega) (by omega) k0 k1 kn
            · by_cases c13 : l[i] = 13
              · rw [if_pos (show isBl l[i] = true by rw [c13]; decide)]
                refine sb_13 (n := l.length) (i := i) (by omega) (by omega) g0 g1 gn (hi_2_2 := st_i_s _ _ _ _) (hi_2_1 := e1 i) (c_1 := c1) (c_2 := c2) (c_3 := by decide) (c_4 := by rw [hE]; exact c35) (c_5 := by rw [hE]; exact c9) (c_6 := by rw [hE]; exact c10) (c_7 := hE.trans c13) fun lv' k0 k1 kn => ?_
                refine ev_hs (st_i_i σ 2 2 _ _) ?_
                exact ih (i + 1) false lv' (by omega) (by omega) k0 k1 kn
              · by_cases c32 : l[i] = 32
                · rw [if_pos (show isBl l[i] = true by rw [c32]; decide)]
                  refine sb_32 (n := l.length) (i := i) (by omega) (by omega) g0 g1 gn (hi_2_2 := st_i_s _ _ _ _) (hi_2_1 := e1 i) (c_1 := c1) (c_2 := c2) (c_3 := by decide) (c_4 := by rw [hE]; exact c35) (c_5 := by rw [hE]; exact c9) (c_6 := by rw [hE]; exact c10) (c_7 := by rw [hE]; exact c13) (c_8 := hE.trans c32) fun lv' k0 k1 kn => ?_
                  refine ev_hs (st_i_i σ 2 2 _ _) ?_
                  exact ih (i + 1) false lv' (by omega) (by omega) k0 k1 kn
                · rw [if_neg (show ¬ isBl l[i] = true by unfold isBl; rw [decide_eq_false c9, decide_eq_false c10, decide_eq_false c13, decide_eq_false c32]; decide)]
                  exact sb_out (n := l.length) (i := i) (by omega) (by omega) g0 g1 gn (hi_2_2 := st_i_s _ _ _ _) (hi_2_1 := e1 i) (c_1 := c1) (c_2 := c2) (c_3 := by decide) (c_4 := by rw [hE]; exact c35) (c_5 := by rw [hE]; exact c9) (c_6 := by rw [hE]; exact c10) (c_7 := by rw [hE]; exact c13) (c_8 := by rw [hE]; exact c32)
    · have e : i = l.length := by omega
      have hl : l[i]? = none := List.getElem?_eq_none (by omega)
      unfold sk
      rw [hl]
      exact sb_end (n := l.length) (i := i) (by omega) (by omega) g0 g1 gn (hi_2_2 := st_i_s _ _ _ _) (hi_2_1 := e1 i) (c_1 := nI_le (by omega) (by omega))
