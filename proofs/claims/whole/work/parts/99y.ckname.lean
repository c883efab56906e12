/-! the class's checker: a name, and all of a rule -/
section CKN
variable {N : Nat} {σ : st_S} {t n : Nat} {M : Nat → Nat → Int32} {l : List Int32} {w : List (Nat × Nat × Nat)} {E : List En} {X : Nat → Nat} {h hop b : Nat}
theorem F62' (q : CS σ t n M) {x i : Nat} (hx : x < n) (hi : i < n) : F_62 N t (nI x) (nI i) σ = some (st_e (st_e (st_e σ (t + 7) i (M x 5)) (t + 8) i (M x 6)) (t + 9) i (M x 7)) := by
  have a7 : aB (nI x) (gN σ (t + 7)) := q.a (c := 5) (by decide) hx
  have a8 : aB (nI x) (gN σ (t + 8)) := q.a (c := 6) (by decide) hx
  have a9 : aB (nI x) (gN σ (t + 9)) := q.a (c := 7) (by decide) hx
  have b7 : aB (nI i) (gN σ (t + 7)) := q.a (c := 5) (by decide) hi
  have b8 : aB (nI i) (gN σ (t + 8)) := q.a (c := 6) (by decide) hi
  have b9 : aB (nI i) (gN σ (t + 9)) := q.a (c := 7) (by decide) hi
  have g7 : gE σ (t + 7) (nI x).toNatClampNeg = M x 5 := q.g (c := 5) (by decide) hx
  have g8 : gE σ (t + 8) (nI x).toNatClampNeg = M x 6 := q.g (c := 6) (by decide) hx
  have g9 : gE σ (t + 9) (nI x).toNatClampNeg = M x 7 := q.g (c := 7) (by decide) hx
  have cl : (nI i).toNatClampNeg = i := nI_clamp (by have := q.2.1; omega)
  unfold F_62
  rw [if_pos a7, if_pos b7, if_pos a8, if_pos b8, if_pos a9, if_pos b9, g7, g8, g9, cl]
theorem fnd_lt {l : List Int32} {w : List (Nat × Nat × Nat)} {E : List En} {k j : Nat} (h : fnd l w E k = some j) : j < E.length := by
  have hj : E.findIdx? (fun e => swd l w e.1 k) = some j := h
  exact (List.findIdx?_eq_some_iff_getElem.mp hj).1
/-- only consts count in this item -/
def cOn (hop : Nat) : Bool := hop = 27 || hop = 29
theorem nm_ok (ht : t = 4 ∨ t = 20) (hN : 20000 < N) (hP : Pw l w) (q : CX σ t n M l w E X h hop b) (hn : b ≤ n) {i k : Nat} (hi : i < n) (hb : b ≤ i) (hh : hop < 40) (hk : kK w k = 1) (n0 : M i 0 = 1) (n1 : M i 1 = nI (kP w k)) (n2 : M i 2 = nI (kP w k)) (n3 : M i 3 = nI (kE w k - kP w k)) (n7 : M i 7 = 1) : CkO N t n l w E X h hop b σ M (.leaf k) i (chn l w E (cOn hop) k) := by
  have a2 : aB (nI i) (gN σ (t + 2)) := q.1.a (c := 0) (by decide) hi
  have a3 : aB (nI i) (gN σ (t + 3)) := q.1.a (c := 1) (by decide) hi
  have a4 : aB (nI i) (gN σ (t + 4)) := q.1.a (c := 2) (by decide) hi
  have a5 : aB (nI i) (gN σ (t + 5)) := q.1.a (c := 3) (by decide) hi
  have a7 : aB (nI i) (gN σ (t + 7)) := q.1.a (c := 5) (by decide) hi
  have g2 : gE σ (t + 2) (nI i).toNatClampNeg = 1 := (q.1.g (c := 0) (by decide) hi).trans n0
  have g3 : gE σ (t + 3) (nI i).toNatClampNeg = nI (kP w k) := (q.1.g (c := 1) (by decide) hi).trans n1
  have g4 : gE σ (t + 4) (nI i).toNatClampNeg = nI (kP w k) := (q.1.g (c := 2) (by decide) hi).trans n2
  have g5 : gE σ (t + 5) (nI i).toNatClampNeg = nI (kE w k - kP w k) := (q.1.g (c := 3) (by decide) hi).trans n3
  have cl : (nI i).toNatClampNeg = i := nI_clamp (by have := q.1.2.1; omega)
  have q' := q
  obtain ⟨c1, c2, c3, c4, c5, c6, c7, c8, c9, c10⟩ := q
  have h2 : aB (nI h) (gN σ (t + 2)) := c1.a (c := 0) (by decide) (by omega)
  have gh : gE σ (t + 2) (nI h).toNatClampNeg = nI hop := (c1.g (c := 0) (by decide) (by omega)).trans c9
  have l53 : ∀ k', L_53 N t (k' + 1) (nI i) σ = _ := fun k' => L53v (N := N) (op := 1) (k := k') c1 hi (by decide) n0
  have f57 : F_57 N t (nI i) σ = F_58 N t (nI i) σ := by
    unfold F_57
    rw [if_pos a2]
    simp only [g2]
    rw [if_pos trivial, bd_id]
  have k27 : nI hop = 27 ↔ hop = 27 := nI_eq (b := 27) (by omega) (by decide)
  have k29 : nI hop = 29 ↔ hop = 29 := nI_eq (b := 29) (by omega) (by decide)
  have f59 := F59 (N := N) hN c2 hP c3 k
  have fail : J_58_81 N t (nI i) σ = some (2, st_i σ 46 4 (nI (kP w k))) := by
    unfold J_58_81
    rw [if_pos a3, g3]
    rfl
  have bad : F_58 N t (nI i) σ = some (2, st_i σ 46 4 (nI (kP w k))) → CkO N t n l w E X h hop b σ M (.leaf k) i (.inl (2, kP w k)) := by
    intro hf
    obtain ⟨d1, d2⟩ := q'.i4 ht (nI (kP w k))
    refine ⟨st_i σ 46 4 (nI (kP w k)), M, fun k' => ?_, by rw [gI_i, if_pos ⟨rfl, rfl⟩], FN.i _ _ (by simp), d1, d2⟩
    rw [show k' + tln (.leaf k) = k' + 1 from rfl, l53, f57, hf]
    rfl
  have f58 : F_58 N t (nI i) σ = (match fnd l w E k with
      | none => some (2, st_i σ 46 4 (nI (kP w k)))
      | some j => if cOn hop = true ∧ (E.getD j eN).2.1 ≠ 1 then some (2, st_i σ 46 4 (nI (kP w k))) else J_58_96 N t (nI i) (nI j) σ) := by
    unfold F_58
    rw [if_pos a4, if_pos a5]
    simp only [g4, g5]
    rw [f59, ob_some]
    simp only [c7]
    rw [if_pos h2]
    simp only [gh]
    cases hf : fnd l w E k with
    | none =>
      dsimp only
      have j51 : J_58_51 N t (nI i) (-1) σ = some (2, st_i σ 46 4 (nI (kP w k))) := by
        unfold J_58_51
        rw [if_pos (by decide), fail]
      rw [j51, if_pos (show (-1 : Int32) < 0 by decide), fail]
      repeat' split
      all_goals rfl
    | some j =>
      dsimp only
      have lt := fnd_lt hf
      have l72 := c3.2.1
      have jp : ¬ nI j < 0 := nI_pos (by omega)
      have a50 : aB (nI j) (gN σ 50) := by rw [c3.2.2.2.2.1]; exact aB_nI (by omega) (by decide)
      have clj : (nI j).toNatClampNeg = j := nI_clamp (by omega)
      obtain ⟨m1, m2, m3, m4⟩ := c3.2.2.2.2.2.2 j lt
      have s3 : (E.getD j eN).2.1 = 1 ∨ (E.getD j eN).2.1 = 2 ∨ (E.getD j eN).2.1 = 3 := by
        rcases c4 j lt with z | z | z
        · exact Or.inl z.1
        · exact Or.inr (Or.inl z.1)
        · exact Or.inr (Or.inr z.1)
      have ks : nI (srt (E.getD j eN).2.1) = 27 ↔ (E.getD j eN).2.1 = 1 := by
        unfold srt
        rcases s3 with z | z | z <;> rw [z] <;> decide
      have j51 : J_58_51 N t (nI i) (nI j) σ = if (E.getD j eN).2.1 = 1 then J_58_96 N t (nI i) (nI j) σ else some (2, st_i σ 46 4 (nI (kP w k))) := by
        unfold J_58_51
        rw [if_neg jp, if_pos a50]
        simp only [clj, m3]
        rw [fail]
        by_cases z : (E.getD j eN).2.1 = 1
        · rw [if_pos z, if_pos (ks.mpr z)]
        · rw [if_neg z, if_neg (fun y => z (ks.mp y))]
      rw [j51, if_neg jp]
      by_cases z27 : hop = 27
      · have co : cOn hop = true := by rw [z27]; rfl
        rw [if_pos (k27.mpr z27)]
        by_cases z : (E.getD j eN).2.1 = 1
        · rw [if_pos z, if_neg (fun y => y.2 z)]
        · rw [if_neg z, if_pos ⟨co, z⟩]
      · rw [if_neg (fun y => z27 (k27.mp y))]
        by_cases z29 : hop = 29
        · have co : cOn hop = true := by rw [z29]; rfl
          rw [if_pos (k29.mpr z29)]
          by_cases z : (E.getD j eN).2.1 = 1
          · rw [if_pos z, if_neg (fun y => y.2 z)]
          · rw [if_neg z, if_pos ⟨co, z⟩]
        · have co : ¬ cOn hop = true := by
            simp only [cOn, Bool.or_eq_true, decide_eq_true_eq]
            omega
          rw [if_neg (fun y => z29 (k29.mp y)), if_neg (fun y => co y.1)]
  unfold chn
  cases hf : fnd l w E k with
  | none =>
    rw [hf] at f58
    exact bad f58
  | some j =>
    rw [hf] at f58
    dsimp only at f58 ⊢
    by_cases z : cOn hop = true ∧ (E.getD j eN).2.1 ≠ 1
    · rw [if_pos z] at f58 ⊢
      exact bad f58
    · rw [if_neg z] at f58 ⊢
      have lt := fnd_lt hf
      have l72 := c3.2.1
      have a50 : aB (nI j) (gN σ 50) := by rw [c3.2.2.2.2.1]; exact aB_nI (by omega) (by decide)
      have a51 : aB (nI j) (gN σ 51) := by rw [c3.2.2.2.2.2.1]; exact aB_nI (by omega) (by decide)
      have clj : (nI j).toNatClampNeg = j := nI_clamp (by omega)
      obtain ⟨m1, m2, m3, m4⟩ := c3.2.2.2.2.2.2 j lt
      have k3 : (if (E.getD j eN).2.2.1 = true then 2 else 1) = kdn (E.getD j eN) := rfl
      have k33 : kdn (E.getD j eN) < 3 := by unfold kdn; split <;> decide
      rw [k3]
      unfold J_58_96 at f58
      rw [if_pos a51, if_pos a50] at f58
      simp only [clj, m3, m4] at f58
      rcases c4 j lt with ⟨s1, x1, x2, x3, x4⟩ | ⟨s1, x1, fe, ro, x2, x3, x4, x5, x6⟩ | ⟨s1, x1, x2⟩
      · rw [s1] at f58
        rw [if_pos (show nI (srt 1) = 27 from rfl), F62' c1 (by omega) hi, ob_some] at f58
        have b2 : aB (nI i) (gN (st_e (st_e (st_e σ (t + 7) i (M (X j) 5)) (t + 8) i (M (X j) 6)) (t + 9) i (M (X j) 7)) (t + 2)) := a2
        rw [if_pos b2, cl] at f58
        have d1 := q'.e ht (c := 5) (by decide) hb (M (X j) 5)
        have d2 := d1.e ht (c := 6) (by decide) hb (M (X j) 6)
        have d3 := d2.e ht (c := 7) (by decide) hb (M (X j) 7)
        have d4 := d3.e ht (c := 0) (by decide) hb 0
        refine ⟨_, _, fun k' => ?_, d4, (FN.c σ (c := 5) (by decide) i _).tr ((FN.c _ (c := 6) (by decide) i _).tr ((FN.c _ (c := 7) (by decide) i _).tr (FN.c _ (c := 0) (by decide) i _))), fun j' hj' => ?_, ?_, ?_, k33⟩
        · rw [show k' + tln (.leaf k) = k' + 1 from rfl, l53, f57, f58]
          rfl
        · have hj' : j' < i ∨ i + 1 ≤ j' := hj'
          rw [pat_o _ _ (by omega), pat_o _ _ (by omega), pat_o _ _ (by omega), pat_o _ _ (by omega)]
        · refine ⟨Or.inr (Or.inr (Or.inr ⟨hk, j, hf, lt, Or.inl ⟨s1, ?_, ?_, ?_, ?_⟩⟩)), KG.one (op := 0) (by rw [pat_s]; rfl) (by decide) (Or.inl (by decide))⟩
          · rw [pat_s]
          · rw [pat_c _ _ (by decide), pat_c _ _ (by decide), pat_s]; exact x3
          · rw [pat_c _ _ (by decide), pat_s]; exact x4
          · rw [pat_c _ _ (by decide), pat_c _ _ (by decide), pat_c _ _ (by decide), pat_s]; exact x2
        · show pat (pat (pat (pat M i 5 (M (X j) 5)) i 6 (M (X j) 6)) i 7 (M (X j) 7)) i 0 0 i 5 = _
          rw [pat_c _ _ (by decide), pat_c _ _ (by decide), pat_c _ _ (by decide), pat_s]
          exact x2
      · rw [s1] at f58
        rw [if_neg (show ¬ nI (srt 2) = 27 by decide), if_pos (show nI (srt 2) = 28 from rfl), if_pos a2, if_pos a4] at f58
        have a14 : aB (nI (X j)) (gN σ (t + 14)) := by rw [c6]; exact aB_nI (by omega) (by decide)
        have clx : (nI (X j)).toNatClampNeg = X j := nI_clamp (by omega)
        rw [if_pos a14] at f58
        simp only [cl, clx, x2] at f58
        have d1 := q'.e ht (c := 0) (by decide) hb 3
        have d2 := d1.e ht (c := 2) (by decide) hb (nI (X j))
        have mf : pat (pat M i 0 3) i 2 (nI (X j)) fe 2 = nI ro := by rw [pat_o _ _ (by omega), pat_o _ _ (by omega)]; exact x4
        have mr : pat (pat M i 0 3) i 2 (nI (X j)) ro 5 = nI (kdn (E.getD j eN)) := by rw [pat_o _ _ (by omega), pat_o _ _ (by omega)]; exact x6
        have f63 : F_63 N t (nI fe) (st_e (st_e σ (t + 2) i 3) (t + 4) i (nI (X j))) = some (nI (kdn (E.getD j eN)), st_e (st_e σ (t + 2) i 3) (t + 4) i (nI (X j))) := by
          have := F63' (N := N) d2.1 (i := fe) (a := ro) (by omega) (by omega) mf
          rw [mr] at this
          exact this
        rw [f63, ob_some] at f58
        have b7 : aB (nI i) (gN (st_e (st_e σ (t + 2) i 3) (t + 4) i (nI (X j))) (t + 7)) := a7
        dsimp only at f58
        rw [if_pos b7] at f58
        have d3 := d2.e ht (c := 5) (by decide) hb (nI (kdn (E.getD j eN)))
        refine ⟨_, _, fun k' => ?_, d3, (FN.c σ (c := 0) (by decide) i _).tr ((FN.c _ (c := 2) (by decide) i _).tr (FN.c _ (c := 5) (by decide) i _)), fun j' hj' => ?_, ?_, ?_, k33⟩
        · rw [show k' + tln (.leaf k) = k' + 1 from rfl, l53, f57, f58]
          rfl
        · have hj' : j' < i ∨ i + 1 ≤ j' := hj'
          rw [pat_o _ _ (by omega), pat_o _ _ (by omega), pat_o _ _ (by omega)]
        · refine ⟨Or.inr (Or.inr (Or.inr ⟨hk, j, hf, lt, Or.inr (Or.inl ⟨s1, ?_, ?_⟩)⟩)), KG.one (op := 3) (by rw [pat_c _ _ (by decide), pat_c _ _ (by decide), pat_s]; rfl) (by decide) (Or.inl (by decide))⟩
          · rw [pat_c _ _ (by decide), pat_c _ _ (by decide), pat_s]
          · rw [pat_c _ _ (by decide), pat_s]
        · show pat (pat (pat M i 0 3) i 2 (nI (X j))) i 5 (nI (kdn (E.getD j eN))) i 5 = _
          rw [pat_s]
      · rw [s1] at f58
        rw [if_neg (show ¬ nI (srt 3) = 27 by decide), if_neg (show ¬ nI (srt 3) = 28 by decide), if_pos a2, if_pos a4] at f58
        have a13 : aB (nI (X j)) (gN σ (t + 13)) := by rw [c5]; exact aB_nI (by omega) (by decide)
        have clx : (nI (X j)).toNatClampNeg = X j := nI_clamp (by omega)
        rw [if_pos a13, if_pos a7] at f58
        simp only [cl, clx, x2] at f58
        have d1 := q'.e ht (c := 0) (by decide) hb 2
        have d2 := d1.e ht (c := 2) (by decide) hb (nI (X j))
        have d3 := d2.e ht (c := 5) (by decide) hb (nI (kdn (E.getD j eN)))
        refine ⟨_, _, fun k' => ?_, d3, (FN.c σ (c := 0) (by decide) i _).tr ((FN.c _ (c := 2) (by decide) i _).tr (FN.c _ (c := 5) (by decide) i _)), fun j' hj' => ?_, ?_, ?_, k33⟩
        · rw [show k' + tln (.leaf k) = k' + 1 from rfl, l53, f57, f58]
          rfl
        · have hj' : j' < i ∨ i + 1 ≤ j' := hj'
          rw [pat_o _ _ (by omega), pat_o _ _ (by omega), pat_o _ _ (by omega)]
        · refine ⟨Or.inr (Or.inr (Or.inr ⟨hk, j, hf, lt, Or.inr (Or.inr ⟨s1, ?_, ?_, ?_, ?_⟩)⟩)), KG.one (op := 2) (by rw [pat_c _ _ (by decide), pat_c _ _ (by decide), pat_s]; rfl) (by decide) (Or.inl (by decide))⟩
          · rw [pat_c _ _ (by decide), pat_c _ _ (by decide), pat_s]
          · rw [pat_c _ _ (by decide), pat_s]
          · rw [pat_c _ _ (by decide), pat_c _ _ (by decide), pat_c _ _ (by decide)]; exact n7
          · rw [pat_s]
        · show pat (pat (pat M i 0 2) i 2 (nI (X j))) i 5 (nI (kdn (E.getD j eN))) i 5 = _
          rw [pat_s]
end CKN
