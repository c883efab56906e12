/-! the reference's items: a var, as a whole -/
section VI
variable {N g x n k : Nat} {σ σ0 : st_S} {D : Nat → Nat → Int32} {w : List (Nat × Nat × Nat)} {l : List Int32} {X : Tx} {fa : Nat → Nat} {R : List (Nat × Tr)} {e : Nat}
/-- truths -/
theorem var_b (G : RG0 N g x l w σ0) (h : RN g x l w σ0 σ X n D fa) (hf : gI σ 66 16 = 0) (hc : NCt σ g X) (hv2 : cnt X.1 3 < 12) (len : X.1.length + 1 ≤ 72) (k1l : k + 1 < w.length) (hfn : fnd l w X.1 (k + 1) = none) (h18 : gE σ (g + 18) (cnt X.1 3) = 1) (hC : Ch w 29 k R) (hF : Fi w 29 k R e) (hn : n ≤ k) (k5 : kK w (k + 3) = 5) : kK w (k + 4) < 40 ∧ ItR g x l w σ0 (e + 1) (match rul l w X.1 29 k R with
    | some e => .inl e
    | none => fin l w X 29 k R) (J_199_187 N g x (nI k) (nI e) (nI (cnt X.1 3)) 1 (nI (k + 4)) (if nI (kK w (k + 4)) = 9 then 1 else 0 : Int32) (-1) (-1) (nI (k + 3)) σ) := by
  have hg := G.1
  have hx := G.2.1
  have h40 := G.2.2.2.1
  have hwl := G.2.2.2.2.1
  have hl := h.1.2.1.2.1
  have aV : aB (nI (cnt X.1 3)) 12 := aB_nI hv2 (by decide)
  have cl : (nI (cnt X.1 3)).toNatClampNeg = cnt X.1 3 := nI_clamp (by omega)
  refine ⟨h40 _, ?_⟩
  have dk : decide (kK w (k + 3) = 5) = true := decide_eq_true k5
  rcases one_b hC k5 with rfl | ⟨T, rfl⟩
  · have k4 : kK w (k + 4) = 34 := by
      obtain ⟨q, ⟨-, -, -, -, -, z⟩ | ⟨r, T, R1, z, -⟩⟩ := hF
      · rw [z] at q; exact q
      · cases z
    have e0 : rul l w X.1 29 k [] = none := rfl
    have er : rng l w X.1 k [] = .inr (0, 1, 0) := by unfold rng; rw [if_pos k5]
    rw [e0]
    dsimp only
    unfold fin
    rw [if_neg (by decide), if_neg (by decide), if_pos rfl, er, sbd_r, dk, k4]
    unfold J_199_187
    rw [if_pos (by decide)]
    unfold J_199_214
    rw [if_pos hf, if_neg (by decide), hl (g + 19) (by omega) (by omega), hl (g + 20) (by omega) (by omega), if_pos aV, if_pos aV]
    simp only [cl]
    have q1 := (h.e3 hg hx (a := g + 19) (r := cnt X.1 3) 0 (by omega) rfl).e3 hg hx (a := g + 20) (r := cnt X.1 3) 1 (by omega) rfl
    have ee : e = k + 4 := by
      obtain ⟨-, ⟨-, -, -, -, -, z⟩ | ⟨r, T, R1, z, -⟩⟩ := hF
      · exact z
      · cases z
    have J := J369s (b := true) (k := k) (l6 := if nI 34 = 9 then 1 else 0) (l10 := -1) (lo := 0) (hi := 1) (i := e + 1) (a := 0) (init := k + 4) G q1 (NCt.eq hc rfl) rfl hv2 len k1l hfn hf (by omega) (by rw [gE_e, if_neg (by omega), gE_e, if_neg (by omega)]; exact h18) (by rw [gE_e, if_neg (by omega), gE_e, if_pos ⟨rfl, rfl⟩]) (by rw [gE_e, if_pos ⟨rfl, rfl⟩]) (by omega) none (show (if nI 34 = 9 then 1 else 0 : Int32) = 0 by decide)
    exact J
  · obtain ⟨-, hw, h6, hB⟩ := hC
    have hb : bw T = k + 5 ∧ kK w (k + 4) = 9 := by
      rcases hB with ⟨-, h1, -⟩ | ⟨-, h1, h2, -⟩ | ⟨-, h1, h2, h3, h4, h5, h7, h8⟩ | ⟨-, h1, -⟩ | ⟨-, h1, -⟩ | ⟨T', R1, h1, -⟩ | ⟨T', R1, h1, -⟩ | ⟨T', R1, h1, -⟩ | ⟨T', R1, h1, -⟩ | ⟨T', R1, h1, -⟩ | ⟨h1, -⟩
      · omega
      · omega
      · exact ⟨h3, h8⟩
      · omega
      · omega
      · cases h1
      · cases h1
      · cases h1
      · cases h1
      · cases h1
      · omega
    obtain ⟨b5, k9⟩ := hb
    have ee : e = ew T := by
      obtain ⟨-, ⟨z, -⟩ | ⟨r, T', R1, z, hz⟩⟩ := hF
      · cases z
      · injection z with z
        injection z with z z'
        subst z z'
        rcases hz with ⟨-, q⟩ | ⟨q, -⟩ | ⟨q, -⟩
        · exact q
        · omega
        · omega
    have rl := rln_le hw
    have rd := hw.wd.1
    obtain ⟨el, bl⟩ := ew_le hw
    have w2 : wkd l w X.1 k 3 T = 2 := by unfold wkd; rw [if_neg (by decide), if_pos rfl, if_pos k5]
    have K := rm_rule (N := N) (co := true) (kw := 2) (G.rg h.2.2.2.1) (Or.inr rfl) hw h6 h.1 hf (by omega)
    rw [rul_vs (Or.inr (Or.inr rfl)) (by rw [w2]; decide), w2]
    have e0 : rul l w X.1 29 k [] = none := rfl
    rw [e0]
    have e5 : nI (k + 4) + 1 = nI (bw T) := by rw [b5]; exact nI_1 (k + 4)
    have j : J_199_187 N g x (nI k) (nI e) (nI (cnt X.1 3)) 1 (nI (k + 4)) (if nI (kK w (k + 4)) = 9 then 1 else 0 : Int32) (-1) (-1) (nI (k + 3)) σ = (F_201 N g x (nI (bw T)) (nI (ew T)) 1 1 σ).bind fun p => if gI p.2 66 16 = 0 then (if aB (nI (cnt X.1 3)) (gN p.2 (g + 19)) then (if aB (nI (cnt X.1 3)) (gN p.2 (g + 20)) then J_199_369 N g x (nI k) (nI (cnt X.1 3)) (nI (k + 4)) 1 p.1 (st_e (st_e p.2 (g + 19) (nI (cnt X.1 3)).toNatClampNeg 0) (g + 20) (nI (cnt X.1 3)).toNatClampNeg 1) else none) else none) else some p.2 := by
      unfold J_199_187
      rw [k9, show (if nI 9 = 9 then 1 else 0 : Int32) = 1 from rfl, if_neg (show ¬ (1 : Int32) = 0 by decide), if_pos hf, e5, ee]
      rfl
    rw [j]
    cases hr : rok l w X.1 true 2 T with
    | inl er =>
      rw [hr] at K
      obtain ⟨s1, n', D', a1, a2, a3, a4, a5⟩ := K
      have a1 : F_201 N g x (nI (bw T)) (nI (ew T)) 1 1 σ = some (nI n, s1) := a1
      show RFl g x l w σ0 er _
      refine ⟨s1, _, n', D', ?_, a2, a3, a4⟩
      rw [a1, ob_some]
      dsimp only
      rw [if_neg (by rw [a2]; exact rok_e hr)]
    | inr kd =>
      rw [hr] at K
      obtain ⟨s1, D1, a1, a2, a3, a4, a5, a6⟩ := K
      have a1 : F_201 N g x (nI (bw T)) (nI (ew T)) 1 1 σ = some (nI n, s1) := a1
      show ItR g x l w σ0 (e + 1) (fin l w X 29 k [(3, T)]) _
      have q0 : RN g x l w σ0 s1 X (n + rln T) D1 fa := h.fz hg a3 a6 (by omega) a4
      have hl1 := a3.2.1.2.1
      have q1 := (q0.e3 hg hx (a := g + 19) (r := cnt X.1 3) 0 (by omega) rfl).e3 hg hx (a := g + 20) (r := cnt X.1 3) 1 (by omega) rfl
      have s18 : gE s1 (g + 18) (cnt X.1 3) = 1 := by rw [(a6.2.2.2.1 (g + 18) (by simp only [List.mem_cons, List.not_mem_nil, or_false]; omega)).2]; exact h18
      rw [a1, ob_some]
      dsimp only
      rw [if_pos a2, hl1 (g + 19) (by omega) (by omega), hl1 (g + 20) (by omega) (by omega), if_pos aV, if_pos aV]
      simp only [cl]
      have J := J369s (b := true) (k := k) (l6 := 1) (l10 := nI n) (lo := 0) (hi := 1) (i := e + 1) (a := n) (init := k + 4) G q1 (NCt.eq (hc.fz hg a6) rfl) rfl hv2 len k1l hfn a2 (by omega) (by rw [gE_e, if_neg (by omega), gE_e, if_neg (by omega)]; exact s18) (by rw [gE_e, if_neg (by omega), gE_e, if_pos ⟨rfl, rfl⟩]) (by rw [gE_e, if_pos ⟨rfl, rfl⟩]) (by omega) (some T) ⟨rfl, hw, h6, rok_i hr, a5, Nat.le_refl _, rfl, by omega⟩
      unfold fin
      rw [if_neg (by decide), if_neg (by decide), if_pos rfl]
      have er : rng l w X.1 k [(3, T)] = sbd (eT l w X.1 T) fun u => .inr (0, 1, u.1.toInt32) := by unfold rng; rw [if_pos k5]
      rw [er, dk]
      exact J
/-- numbers -/
theorem var_n (G : RG0 N g x l w σ0) (h : RN g x l w σ0 σ X n D fa) (hf : gI σ 66 16 = 0) (hc : NCt σ g X) (hv2 : cnt X.1 3 < 12) (len : X.1.length + 1 ≤ 72) (k1l : k + 1 < w.length) (hfn : fnd l w X.1 (k + 1) = none) (h18 : gE σ (g + 18) (cnt X.1 3) = 0) (hC : Ch w 29 k R) (hF : Fi w 29 k R e) (hn : n ≤ k) (k5 : kK w (k + 3) ≠ 5) : ∃ init rg, (∀ s, W3 s w → F_200 N (nI (k + 3)) (nI e) s = some (nI init, s)) ∧ init < w.length ∧ F_163 N (nI (k + 3)) 16 σ = some (nI rg, σ) ∧ ItR g x l w σ0 (e + 1) (match rul l w X.1 29 k R with
    | some e => .inl e
    | none => fin l w X 29 k R) ((F_201 N g x (nI (k + 3)) (nI rg) 0 1 σ).bind fun p_14 =>
          if (gI p_14.2 66 16) = 0 then
            (F_201 N g x (nI rg + 1) (nI init) 0 1 (p_14.2)).bind fun p_16 =>
            J_199_187 N g x (nI k) (nI e) (nI (cnt X.1 3)) 0 (nI init) (if nI (kK w init) = 9 then 1 else 0 : Int32) p_14.1 p_16.1 (nI rg) (p_16.2)
          else
            J_199_187 N g x (nI k) (nI e) (nI (cnt X.1 3)) 0 (nI init) (if nI (kK w init) = 9 then 1 else 0 : Int32) p_14.1 (-1) (nI rg) (p_14.2)) := by
  have hg := G.1
  have hx := G.2.1
  have hN := G.2.2.1
  have h40 := G.2.2.2.1
  have hwl := G.2.2.2.2.1
  have w3 := h.1.1.2.1
  have rg0 := G.rg h.2.2.2.1
  have dk : decide (kK w (k + 3) = 5) = false := decide_eq_false k5
  -- the first two rules
  obtain ⟨Th, Tl, ob, hRe, hl', hh'⟩ : ∃ Th Tl, ∃ ob : Option Tr, R = (match ob with
      | none => [(2, Th), (1, Tl)]
      | some Tb => [(3, Tb), (2, Th), (1, Tl)]) ∧ (Wf w Tl ∧ lev Tl ≤ 6 ∧ bw Tl = k + 3 ∧ kK w (ew Tl) = 16) ∧ (Wf w Th ∧ lev Th ≤ 6 ∧ bw Th = ew Tl + 1) := by
    have low : ∀ {Tl : Tr}, Ch w 29 k [(1, Tl)] → Wf w Tl ∧ lev Tl ≤ 6 ∧ bw Tl = k + 3 := by
      intro Tl q
      obtain ⟨-, a1, a2, hB⟩ := q
      refine ⟨a1, a2, ?_⟩
      rcases hB with ⟨-, h1, -⟩ | ⟨-, h1, h2, h3, -⟩ | ⟨-, h1, h2, -⟩ | ⟨-, h1, -⟩ | ⟨-, h1, -⟩ | ⟨T', R1, h1, -⟩ | ⟨T', R1, h1, -⟩ | ⟨T', R1, h1, -⟩ | ⟨T', R1, h1, -⟩ | ⟨T', R1, h1, -⟩ | ⟨h1, -⟩
      · omega
      · exact h3
      · omega
      · omega
      · omega
      · cases h1
      · cases h1
      · cases h1
      · cases h1
      · cases h1
      · omega
    have high : ∀ {Th Tl : Tr}, Ch w 29 k [(2, Th), (1, Tl)] → Wf w Th ∧ lev Th ≤ 6 ∧ bw Th = ew Tl + 1 ∧ kK w (ew Tl) = 16 := by
      intro Th Tl q
      obtain ⟨-, a1, a2, hB⟩ := q
      refine ⟨a1, a2, ?_⟩
      rcases hB with ⟨h1, -⟩ | ⟨h1, -⟩ | ⟨h1, -⟩ | ⟨h1, -⟩ | ⟨h1, -⟩ | ⟨T', R1, h1, h2, h3, h4⟩ | ⟨T', R1, h1, -⟩ | ⟨T', R1, h1, -⟩ | ⟨T', R1, h1, -⟩ | ⟨T', R1, h1, -⟩ | ⟨h1, -⟩
      · cases h1
      · cases h1
      · cases h1
      · cases h1
      · cases h1
      · injection h1 with h1
        injection h1 with h1 h1'
        subst h1'
        exact ⟨h4, h3⟩
      · injection h1 with h1
        injection h1 with h1 h1'
        omega
      · injection h1 with h1
        injection h1 with h1 h1'
        omega
      · injection h1 with h1
        injection h1 with h1 h1'
        omega
      · injection h1 with h1
        injection h1 with h1 h1'
        omega
      · omega
    rcases one_i hC hF k5 with ⟨Th, Tl, rfl⟩ | ⟨Tb, Th, Tl, rfl⟩
    · have q1 := low hC.1
      have q2 := high hC
      exact ⟨Th, Tl, none, rfl, ⟨q1.1, q1.2.1, q1.2.2, q2.2.2.2⟩, ⟨q2.1, q2.2.1, q2.2.2.1⟩⟩
    · have q1 := low hC.1.1
      have q2 := high hC.1
      exact ⟨Th, Tl, some Tb, rfl, ⟨q1.1, q1.2.1, q1.2.2, q2.2.2.2⟩, ⟨q2.1, q2.2.1, q2.2.2.1⟩⟩
  obtain ⟨wl1, wl2, wl3, wl4⟩ := hl'
  obtain ⟨wh1, wh2, wh3⟩ := hh'
  have ll := rln_le wl1
  have lh := rln_le wh1
  have dl := wl1.wd
  have dh := wh1.wd
  obtain ⟨ell, bll⟩ := ew_le wl1
  obtain ⟨elh, blh⟩ := ew_le wh1
  have f163 : F_163 N (nI (k + 3)) 16 σ = some (nI (ew Tl), σ) := by
    have := F163 (N := N) (so := 16) (fl := 0) (m := ew Tl - bw Tl) (k := bw Tl) (k' := ew Tl) (a' := 0) w3 h40 (by decide) (by decide) (by omega) (by omega) (tr_p (Or.inr (Or.inl rfl)) wl1 (by omega) 0 0 (Nat.le_refl _) (fun z => absurd z (by decide))) (by decide) (by decide) wl4
    rw [wl3] at this
    exact this
  -- where the begin is told
  have hend : ∀ P : Prop, (((ob = none ∧ e = ew Th ∧ kK w (ew Th) = 34) ∨ ∃ Tb, ob = some Tb ∧ kK w (ew Th) = 9 ∧ bw Tb = ew Th + 1 ∧ Wf w Tb ∧ lev Tb ≤ 6 ∧ e = ew Tb) → P) → P := by
    intro P hP
    apply hP
    cases ob with
    | none =>
      subst hRe
      left
      obtain ⟨q34, ⟨z, -⟩ | ⟨r, T', R1, z, hz⟩⟩ := hF
      · cases z
      · injection z with z
        injection z with z z'
        subst z z'
        rcases hz with ⟨-, q⟩ | ⟨q, -⟩ | ⟨q, -⟩
        · exact ⟨rfl, q, by rw [← q]; exact q34⟩
        · omega
        · omega
    | some Tb =>
      subst hRe
      right
      obtain ⟨-, a1, a2, hB⟩ := hC
      have q9 : kK w (ew Th) = 9 ∧ bw Tb = ew Th + 1 := by
        rcases hB with ⟨h1, -⟩ | ⟨h1, -⟩ | ⟨h1, -⟩ | ⟨h1, -⟩ | ⟨h1, -⟩ | ⟨T', R1, h1, -⟩ | ⟨T', R1, h1, h2, h3, h4⟩ | ⟨T', R1, h1, -⟩ | ⟨T', R1, h1, -⟩ | ⟨T', R1, h1, -⟩ | ⟨h1, -⟩
        · cases h1
        · cases h1
        · cases h1
        · cases h1
        · cases h1
        · injection h1 with h1
          injection h1 with h1 h1'
          omega
        · injection h1 with h1
          injection h1 with h1 h1'
          subst h1'
          exact ⟨h3, h4⟩
        · injection h1 with h1
          injection h1 with h1 h1'
          omega
        · injection h1 with h1
          injection h1 with h1 h1'
          omega
        · injection h1 with h1
          injection h1 with h1 h1'
          omega
        · omega
      refine ⟨Tb, rfl, q9.1, q9.2, a1, a2, ?_⟩
      obtain ⟨-, ⟨z, -⟩ | ⟨r, T', R1, z, hz⟩⟩ := hF
      · cases z
      · injection z with z
        injection z with z z'
        subst z z'
        rcases hz with ⟨-, q⟩ | ⟨q, -⟩ | ⟨q, -⟩
        · exact q
        · omega
        · omega
  have he : ew Th ≤ e ∧ e < 17000 ∧ (ew Th = e ∨ kK w (ew Th) = 9) ∧ ew Th < w.length := by
    refine hend _ (fun hd => ?_)
    rcases hd with ⟨-, q, q3⟩ | ⟨Tb, -, q1, q2, q3, -, q4⟩
    · exact ⟨by omega, by omega, Or.inl q.symm, kK_lt (by omega)⟩
    · have := q3.wd.1
      have := (ew_le q3).1
      exact ⟨by omega, by omega, Or.inr q1, kK_lt (by omega)⟩
  have f200 : ∀ s, W3 s w → F_200 N (nI (k + 3)) (nI e) s = some (nI (ew Th), s) := fun s w3 => by
    have := F200 (N := N) (m := ew Th - (k + 3)) (k := k + 3) (e := e) w3 h40 (by omega) (fun j j1 j2 => ?_) (by omega) (by omega) ?_
    · rw [show k + 3 + (ew Th - (k + 3)) = ew Th by omega] at this
      exact this
    · by_cases c1 : j < ew Tl
      · have := rwk_i.mp (dl.2 j (by omega) c1)
        omega
      · by_cases c2 : j = ew Tl
        · rw [c2]; omega
        · have := rwk_i.mp (dh.2 j (by omega) (by omega))
          omega
    · rw [show k + 3 + (ew Th - (k + 3)) = ew Th by omega]
      exact he.2.2.1
  refine ⟨ew Th, ew Tl, f200, he.2.2.2, f163, ?_⟩
  have wk1 : ∀ r T, r = 1 ∨ r = 2 → wkd l w X.1 k r T = 1 := fun r T hr => by unfold wkd; rw [if_pos (by omega)]
  have wk3 : ∀ T, wkd l w X.1 k 3 T = 1 := fun T => by unfold wkd; rw [if_neg (by decide), if_pos rfl, if_neg k5]
  have e0 : rul l w X.1 29 k [] = none := rfl
  have r1 : rul l w X.1 29 k [(1, Tl)] = orE none (rok l w X.1 true 1 Tl) := by
    rw [rul_vs (Or.inl rfl) (by rw [wk1 _ _ (Or.inl rfl)]; decide), wk1 _ _ (Or.inl rfl), e0]
  have r2 : rul l w X.1 29 k [(2, Th), (1, Tl)] = orE (rul l w X.1 29 k [(1, Tl)]) (rok l w X.1 true 1 Th) := by
    rw [rul_vs (Or.inr (Or.inl rfl)) (by rw [wk1 _ _ (Or.inr rfl)]; decide), wk1 _ _ (Or.inr rfl)]
  have r3 : ∀ Tb, rul l w X.1 29 k [(3, Tb), (2, Th), (1, Tl)] = orE (rul l w X.1 29 k [(2, Th), (1, Tl)]) (rok l w X.1 true 1 Tb) := fun Tb => by
    rw [rul_vs (Or.inr (Or.inr rfl)) (by rw [wk3]; decide), wk3]
  -- a fault of the first two is one of all
  have up : ∀ er, rul l w X.1 29 k [(2, Th), (1, Tl)] = some er → rul l w X.1 29 k R = some er := fun er z => by
    rw [hRe]
    cases ob with
    | none => exact z
    | some Tb =>
      dsimp only
      rw [r3, z]
      rfl
  have jf : ∀ (s : st_S) (er : Nat × Nat) (y1 y2 : Int32), gI s 66 16 = nI er.1 → ¬ nI er.1 = 0 → J_199_187 N g x (nI k) (nI e) (nI (cnt X.1 3)) 0 (nI (ew Th)) (if nI (kK w (ew Th)) = 9 then 1 else 0 : Int32) y1 y2 (nI (ew Tl)) s = some s := fun s er y1 y2 z1 z2 => by
    have n0 : ¬ gI s 66 16 = 0 := by rw [z1]; exact z2
    unfold J_199_187
    rw [if_neg n0, ite_self]
    unfold J_199_214
    rw [if_neg n0]
  have K := rm_rule (N := N) (co := true) (kw := 1) rg0 (Or.inl rfl) wl1 wl2 h.1 hf (by omega)
  rw [wl3] at K
  have x1 : nI (ew Tl) + 1 = nI (bw Th) := by rw [wh3]; exact nI_1 _
  rw [x1]
  cases hk1 : rok l w X.1 true 1 Tl with
  | inl er =>
    rw [hk1] at K r1
    have r1 : rul l w X.1 29 k [(1, Tl)] = some er := r1
    rw [r1] at r2
    rw [up er r2]
    obtain ⟨s1, n', D', a1, a2, a3, a4, a5⟩ := K
    have a1 : F_201 N g x (nI (k + 3)) (nI (ew Tl)) 0 1 σ = some (nI n, s1) := a1
    have z := rok_e hk1
    refine ⟨s1, _, n', D', ?_, a2, a3, a4⟩
    rw [a1, ob_some]
    dsimp only
    rw [if_neg (by rw [a2]; exact z), jf s1 er _ _ a2 z]
  | inr kd1 =>
    rw [hk1] at K r1
    have r1 : rul l w X.1 29 k [(1, Tl)] = none := r1
    rw [r1] at r2
    obtain ⟨s1, D1, a1, a2, a3, a4, a5, a6⟩ := K
    have a1 : F_201 N g x (nI (k + 3)) (nI (ew Tl)) 0 1 σ = some (nI n, s1) := a1
    have q1 : RN g x l w σ0 s1 X (n + rln Tl) D1 fa := h.fz hg a3 a6 (by omega) a4
    have K := rm_rule (N := N) (co := true) (kw := 1) rg0 (Or.inl rfl) wh1 wh2 a3 a2 (by omega)
    rw [a1, ob_some]
    dsimp only
    rw [if_pos a2]
    cases hk2 : rok l w X.1 true 1 Th with
    | inl er =>
      rw [hk2] at K r2
      have r2 : rul l w X.1 29 k [(2, Th), (1, Tl)] = some er := r2
      rw [up er r2]
      obtain ⟨s2, n', D', b1, b2, b3, b4, b5⟩ := K
      have b1 : F_201 N g x (nI (bw Th)) (nI (ew Th)) 0 1 s1 = some (nI (n + rln Tl), s2) := b1
      have z := rok_e hk2
      refine ⟨s2, _, n', D', ?_, b2, b3, b4⟩
      rw [b1, ob_some]
      dsimp only
      rw [jf s2 er _ _ b2 z]
    | inr kd2 =>
      rw [hk2] at K r2
      have r2 : rul l w X.1 29 k [(2, Th), (1, Tl)] = none := r2
      obtain ⟨s2, D2, b1, b2, b3, b4, b5, b6⟩ := K
      have b1 : F_201 N g x (nI (bw Th)) (nI (ew Th)) 0 1 s1 = some (nI (n + rln Tl), s2) := b1
      have q2 : RN g x l w σ0 s2 X (n + rln Tl + rln Th) D2 fa := q1.fz hg b3 b6 (by omega) b4
      have c2 : NCt s2 g X := (hc.fz hg a6).fz hg b6
      have t18 : gE s2 (g + 18) (cnt X.1 3) = 0 := by
        rw [(b6.2.2.2.1 (g + 18) (by simp only [List.mem_cons, List.not_mem_nil, or_false]; omega)).2, (a6.2.2.2.1 (g + 18) (by simp only [List.mem_cons, List.not_mem_nil, or_false]; omega)).2]
        exact h18
      rw [b1, ob_some]
      dsimp only
      refine hend _ (fun hd => ?_)
      rcases hd with ⟨rfl, q3, q4⟩ | ⟨Tb, rfl, q3, q4, q5, q6, q7⟩
      · -- no begin
        have rR : rul l w X.1 29 k R = none := by rw [hRe]; exact r2
        rw [rR]
        dsimp only
        have er : rng l w X.1 k R = sbd (eI l w X.1 Tl) fun lo => sbd (eI l w X.1 Th) fun hi => if hi < lo ∨ ¬ hi - lo < 10000 then .inl (9, kP w (bw Th)) else .inr (lo, hi, lo) := by
          rw [hRe]
          unfold rng
          rw [if_neg k5]
          rfl
        unfold fin
        rw [if_neg (by decide), if_neg (by decide), if_pos rfl, er, dk, q4]
        have j : J_199_187 N g x (nI k) (nI e) (nI (cnt X.1 3)) 0 (nI (ew Th)) (if nI 34 = 9 then 1 else 0 : Int32) (nI n) (nI (n + rln Tl)) (nI (ew Tl)) s2 = vnum N g x (nI k) (nI (cnt X.1 3)) (nI (ew Th)) (if nI 34 = 9 then 1 else 0 : Int32) (nI n) (nI (n + rln Tl)) (nI (ew Tl)) (-1) s2 := by
          unfold J_199_187
          rw [if_pos (by decide)]
          exact J214e b2 rfl
        rw [j]
        exact vnum_ok (a := 0) (init := ew Th) G q2 c2 rfl hv2 len k1l hfn b2 (by omega) t18 ⟨wl1, wl2, rok_i hk1, a5.fr (fun i _ z => b4 i (by omega)), by omega, wl3⟩ ⟨wh1, wh2, rok_i hk2, b5, by omega, wh3⟩ (by omega) none (show (if nI 34 = 9 then 1 else 0 : Int32) = 0 by decide)
      · -- a begin
        have lb := rln_le q5
        obtain ⟨elb, blb⟩ := ew_le q5
        have K := rm_rule (N := N) (co := true) (kw := 1) rg0 (Or.inl rfl) q5 q6 b3 b2 (by omega)
        have rR : rul l w X.1 29 k R = orE none (rok l w X.1 true 1 Tb) := by
          rw [hRe]
          dsimp only
          rw [r3, r2]
        have x5 : nI (ew Th) + 1 = nI (bw Tb) := by rw [q4]; exact nI_1 _
        rw [q3, show (if nI 9 = 9 then 1 else 0 : Int32) = 1 from rfl]
        have j : J_199_187 N g x (nI k) (nI e) (nI (cnt X.1 3)) 0 (nI (ew Th)) 1 (nI n) (nI (n + rln Tl)) (nI (ew Tl)) s2 = (F_201 N g x (nI (bw Tb)) (nI (ew Tb)) 0 1 s2).bind fun p => if gI p.2 66 16 = 0 then vnum N g x (nI k) (nI (cnt X.1 3)) (nI (ew Th)) 1 (nI n) (nI (n + rln Tl)) (nI (ew Tl)) p.1 p.2 else some p.2 := by
          unfold J_199_187
          rw [if_neg (by decide), if_pos b2, x5, q7]
          rfl
        rw [j]
        cases hk3 : rok l w X.1 true 1 Tb with
        | inl er =>
          rw [hk3] at K rR
          have rR : rul l w X.1 29 k R = some er := rR
          rw [rR]
          obtain ⟨s3, n', D', m1, m2, m3, m4, m5⟩ := K
          have m1 : F_201 N g x (nI (bw Tb)) (nI (ew Tb)) 0 1 s2 = some (nI (n + rln Tl + rln Th), s3) := m1
          refine ⟨s3, _, n', D', ?_, m2, m3, m4⟩
          rw [m1, ob_some]
          dsimp only
          rw [if_neg (by rw [m2]; exact rok_e hk3)]
        | inr kd3 =>
          rw [hk3] at K rR
          have rR : rul l w X.1 29 k R = none := rR
          rw [rR]
          obtain ⟨s3, D3, m1, m2, m3, m4, m5, m6⟩ := K
          have m1 : F_201 N g x (nI (bw Tb)) (nI (ew Tb)) 0 1 s2 = some (nI (n + rln Tl + rln Th), s3) := m1
          have q8 : RN g x l w σ0 s3 X (n + rln Tl + rln Th + rln Tb) D3 fa := q2.fz hg m3 m6 (by omega) m4
          have er : rng l w X.1 k R = sbd (eI l w X.1 Tl) fun lo => sbd (eI l w X.1 Th) fun hi => if hi < lo ∨ ¬ hi - lo < 10000 then .inl (9, kP w (bw Th)) else sbd (eI l w X.1 Tb) fun b => if b < lo ∨ ¬ b ≤ hi then .inl (9, kP w (bw Tb)) else .inr (lo, hi, b) := by
            rw [hRe]
            unfold rng
            rw [if_neg k5]
            rfl
          dsimp only
          unfold fin
          rw [if_neg (by decide), if_neg (by decide), if_pos rfl, er, dk, m1, ob_some]
          dsimp only
          rw [if_pos m2]
          exact vnum_ok (a := n + rln Tl + rln Th) (init := ew Th) G q8 (c2.fz hg m6) rfl hv2 len k1l hfn m2 (by omega) (by rw [(m6.2.2.2.1 (g + 18) (by simp only [List.mem_cons, List.not_mem_nil, or_false]; omega)).2]; exact t18) ⟨wl1, wl2, rok_i hk1, (a5.fr (fun i _ z => b4 i (by omega))).fr (fun i _ z => m4 i (by omega)), by omega, wl3⟩ ⟨wh1, wh2, rok_i hk2, b5.fr (fun i _ z => m4 i (by omega)), by omega, wh3⟩ (by omega) (some Tb) ⟨rfl, q5, q6, rok_i hk3, m5, Nat.le_refl _, rfl, by omega⟩
/-- a var -/
theorem F199 (G : RG0 N g x l w σ0) (h : RS g x l w σ0 σ X n D fa) (ho : opw 29 (kK w k)) (hC : Ch w 29 k R) (hF : Fi w 29 k R e) (hn : n ≤ k) : ItR g x l w σ0 (e + 1) (itk l w X 29 k R) (F_199 N g x (nI k) (nI e) σ) := by
  have G' := G
  obtain ⟨hg, hx, hN, h40, hwl, hq, hP, hm, hnv⟩ := G
  obtain ⟨hR, hf, hc⟩ := h
  have r1 := hR.1
  have r4 := hR.2.2.2.1
  have kl : k < w.length := kK_lt (by unfold opw at ho; omega)
  have k1 : kK w (k + 1) = 1 := by
    have hB : ∀ R' : List (Nat × Tr), ∀ r T, Ch w 29 k ((r, T) :: R') → kK w (k + 1) = 1 := by
      intro R'
      induction R' with
      | nil =>
        intro r T q
        obtain ⟨-, -, -, hB⟩ := q
        rcases hB with ⟨-, h1, h2, h3, h4, -⟩ | ⟨-, h1, h2, h3, h4, -⟩ | ⟨-, h1, h2, h3, h4, -⟩ | ⟨-, h1, -⟩ | ⟨-, h1, -⟩ | ⟨T', R1, h1, -⟩ | ⟨T', R1, h1, -⟩ | ⟨T', R1, h1, -⟩ | ⟨T', R1, h1, -⟩ | ⟨T', R1, h1, -⟩ | ⟨-, j0, h1, -⟩
        · exact h4
        · exact h4
        · exact h4
        · omega
        · omega
        · cases h1
        · cases h1
        · cases h1
        · cases h1
        · cases h1
        · exact absurd h1 (fun z => z)
      | cons y R' ih =>
        intro r T q
        exact ih _ _ q.1
    cases R with
    | nil =>
      obtain ⟨-, ⟨-, -, z, -⟩ | ⟨r, T', R1, z, -⟩⟩ := hF
      · exact z
      · cases z
    | cons y R' => exact hB R' y.1 y.2 hC
  have k1l : k + 1 < w.length := kK_lt (by omega)
  obtain ⟨n6, n12, n18, b60, b12, b60', n30, n32, n34⟩ := id hc
  have k3l : k + 3 < w.length ∧ (kK w (k + 3) = 5 → k + 4 < w.length) := by
    obtain ⟨hu, hke, hel⟩ := it_u (N := N) (by omega) r1.1.2.1 h40 hwl ho hC hF
    have := (it_end ho hC hF)
    by_cases c5 : kK w (k + 3) = 5
    · refine ⟨kK_lt (by omega), fun _ => ?_⟩
      rcases one_b hC c5 with rfl | ⟨T, rfl⟩
      · obtain ⟨q, ⟨-, -, -, -, -, z⟩ | ⟨r, T, R1, z, -⟩⟩ := hF
        · omega
        · cases z
      · obtain ⟨-, hw, h6, hB⟩ := hC
        have bl := (ew_le hw).2
        rcases hB with ⟨-, h1, -⟩ | ⟨-, h1, h2, -⟩ | ⟨-, h1, h2, h3, h4, h5, h7, h8⟩ | ⟨-, h1, -⟩ | ⟨-, h1, -⟩ | ⟨T', R1, h1, -⟩ | ⟨T', R1, h1, -⟩ | ⟨T', R1, h1, -⟩ | ⟨T', R1, h1, -⟩ | ⟨T', R1, h1, -⟩ | ⟨h1, -⟩
        · omega
        · omega
        · omega
        · omega
        · omega
        · cases h1
        · cases h1
        · cases h1
        · cases h1
        · cases h1
        · omega
    · refine ⟨?_, fun z => absurd z c5⟩
      have bl : ∀ {Tl : Tr}, Ch w 29 k [(1, Tl)] → k + 3 < w.length := by
        intro Tl q
        obtain ⟨-, a1, a2, hB⟩ := q
        have bl := (ew_le a1).2
        rcases hB with ⟨-, h1, -⟩ | ⟨-, h1, h2, h3, -⟩ | ⟨-, h1, h2, -⟩ | ⟨-, h1, -⟩ | ⟨-, h1, -⟩ | ⟨T', R1, h1, -⟩ | ⟨T', R1, h1, -⟩ | ⟨T', R1, h1, -⟩ | ⟨T', R1, h1, -⟩ | ⟨T', R1, h1, -⟩ | ⟨h1, -⟩
        · omega
        · omega
        · omega
        · omega
        · omega
        · cases h1
        · cases h1
        · cases h1
        · cases h1
        · cases h1
        · omega
      rcases one_i hC hF c5 with ⟨Th, Tl, rfl⟩ | ⟨Tb, Th, Tl, rfl⟩
      · exact bl hC.1
      · exact bl hC.1.1
  unfold itk hdk
  rw [if_neg (by decide), if_pos rfl]
  unfold F_199
  rw [n12]
  by_cases c12 : 12 ≤ cnt X.1 3
  · rw [if_pos c12, show cnt X.1 3 = 12 by omega, if_pos (by decide)]
    exact RFl.st (f := 5) G' r1 kl
  rw [if_neg c12, if_neg (show ¬ nI (cnt X.1 3) = 12 from fun z => by have := (nI_eq (b := 12) (by omega) (by decide)).mp z; omega), nI_1, F166 (by omega) hP r1.1.2.2.1 r1.1.2.1 r1.1.2.2.2.1 r4.1 r4.2 k1l, ob_some]
  dsimp only
  cases hfn : fnd l w X.1 (k + 1) with
  | some j =>
    dsimp only
    have := fnd_lt hfn
    have j72 := r1.1.2.2.2.1.2.2.2.2.2.1
    rw [if_neg (show ¬ nI j < 0 from fun z => by have := (nI_lti (b := 0) (by omega) (by decide)).mp z; omega)]
    exact RFl.st (f := 2) G' r1 k1l
  | none =>
    dsimp only
    have len : X.1.length + 1 ≤ 72 := by
      have := cnt_all (E := X.1) (fun j hj => ⟨(r1.1.2.2.2.1.2.2.2.2.2.2 j hj).1, (r1.1.2.2.2.1.2.2.2.2.2.2 j hj).2.1⟩)
      omega
    have e3 : nI k + 3 = nI (k + 3) := nI_add k 3
    have e4 : nI k + 4 = nI (k + 4) := nI_add k 4
    have aV : aB (nI (cnt X.1 3)) 12 := aB_nI (by omega) (by decide)
    have cl : (nI (cnt X.1 3)).toNatClampNeg = cnt X.1 3 := nI_clamp (by omega)
    have hl := r1.2.1.2.1
    have k40 := h40 (k + 3)
    rw [if_pos (by decide), e3, F162 r1.1.2.1 k3l.1, ob_some]
    dsimp only
    by_cases c5 : kK w (k + 3) = 5
    · rw [c5, show (if nI 5 = 5 then 1 else 0 : Int32) = 1 from rfl, if_neg (show ¬ (1 : Int32) = 0 by decide), e4, F162 r1.1.2.1 (k3l.2 c5), ob_some]
      dsimp only
      rw [n12, hl (g + 18) (by omega) (by omega), if_pos aV]
      simp only [cl]
      have q1 := hR.e3 hg hx (a := g + 18) (r := cnt X.1 3) (vp_nar .boolean 1) (by omega) rfl
      exact (var_b G' q1 hf (NCt.eq hc rfl) (by omega) len k1l hfn (by rw [gE_e, if_pos ⟨rfl, rfl⟩]; rfl) hC hF hn c5).2
    · have n5 : ¬ nI (kK w (k + 3)) = 5 := fun z => c5 ((nI_eq (b := 5) (by omega) (by decide)).mp z)
      have fb : (if nI (kK w (k + 3)) = 5 then 1 else 0 : Int32) = 0 := if_neg n5
      rw [fb, if_pos rfl]
      have q1 := hR.e3 hg hx (a := g + 18) (r := cnt X.1 3) (vp_nar .boolean 0) (by omega) rfl
      obtain ⟨init, rg, v1, v2, v3, v4⟩ := var_n (N := N) G' q1 hf (NCt.eq hc rfl) (by omega) len k1l hfn (by rw [gE_e, if_pos ⟨rfl, rfl⟩]; rfl) hC hF hn c5
      rw [v1 σ r1.1.2.1, ob_some]
      dsimp only
      rw [F162 r1.1.2.1 v2, ob_some]
      dsimp only
      rw [n12, hl (g + 18) (by omega) (by omega), if_pos aV]
      simp only [cl]
      rw [v3, ob_some]
      exact v4
end VI
