/-! the class's machine: an operation of numbers, and the other nodes -/
section MB
variable {N : Nat} {σ : st_S} {t n : Nat} {M : Nat → Nat → Int32}
/-- only longs have changed -/
def Lo (t : Nat) (σ σ1 : st_S) : Prop := σ1.1 = σ.1 ∧ σ1.2.2 = σ.2.2 ∧ FK t σ σ1
theorem Lo.rf : Lo t σ σ := ⟨rfl, rfl, FK.rf σ⟩
theorem Lo.two (A B : Int64) : Lo t σ (st_l (st_l σ 42 7 A) 42 8 B) := ⟨rfl, rfl, (FK.l σ A (Or.inl rfl)).tr (FK.l _ B (Or.inr rfl))⟩
theorem Lo.cs {σ1 : st_S} (h : Lo t σ σ1) (q : CS σ t n M) : CS σ1 t n M := by
  obtain ⟨h1, h2, -⟩ := h
  obtain ⟨q1, q2, q3, q4⟩ := q
  have eN : gN σ1 = gN σ := by show σ1.2.2.2.1 = σ.2.2.2.1; rw [h2]
  have eE : gE σ1 = gE σ := by show σ1.2.2.2.2.1 = σ.2.2.2.2.1; rw [h2]
  exact ⟨by show σ1.1 (t + 1) 8 = _; rw [h1]; exact q1, q2, by rw [eN]; exact q3, by rw [eE]; exact q4⟩
/-- a number's operation -/
theorem F72' (q : CS σ t n M) (hN : 300 < N) {i op x y : Nat} {u v : Int64 × Int64} (hi : i < n) (ho : 4 ≤ op) (ho2 : op ≤ 8) (hx : x < n) (hy : y < n) (e2 : M i 2 = nI x) (e3 : M i 3 = nI y) (hu : Va M x u) (hv : Va M y v) (ku : okv 1 u) (kv : okv 1 v) : ∃ σ1, Lo t σ σ1 ∧ ∀ G : st_S → Option (Int32 × st_S), ((F_72 N t (nI i) (nI op) σ).bind fun p_18 => if p_18.1 = 0 then ((F_74 N t (nI i) (p_18.2)).bind fun p_20 => if p_20.1 = 0 then G p_20.2 else if aB (nI i) (gN p_20.2 (t + 3)) then some (p_20.1, st_i (p_20.2) 42 6 (gE (p_20.2) (t + 3) (nI i).toNatClampNeg)) else none) else if aB (nI i) (gN p_18.2 (t + 3)) then some (p_18.1, st_i (p_18.2) 42 6 (gE (p_18.2) (t + 3) (nI i).toNatClampNeg)) else none) = match rk op u.1 u.2 v.1 v.2 with
    | .inl f => some (nI f, st_i σ1 42 6 (M i 1))
    | .inr z => G (st_e (st_e σ1 (t + 8) i z.1.toInt32) (t + 9) i z.2.toInt32) := by
  obtain ⟨u1, u2⟩ := hu.num ku
  obtain ⟨v1, v2⟩ := hv.num kv
  obtain ⟨k1, k2, k3⟩ := okv1.mp ku
  obtain ⟨m1, m2, m3⟩ := okv1.mp kv
  have a4 : aB (nI i) (gN σ (t + 4)) := q.a (c := 2) (by decide) hi
  have a5 : aB (nI i) (gN σ (t + 5)) := q.a (c := 3) (by decide) hi
  have g4 : gE σ (t + 4) (nI i).toNatClampNeg = nI x := (q.g (c := 2) (by decide) hi).trans e2
  have g5 : gE σ (t + 5) (nI i).toNatClampNeg = nI y := (q.g (c := 3) (by decide) hi).trans e3
  have x8 : aB (nI x) (gN σ (t + 8)) := q.a (c := 6) (by decide) hx
  have x9 : aB (nI x) (gN σ (t + 9)) := q.a (c := 7) (by decide) hx
  have y8 : aB (nI y) (gN σ (t + 8)) := q.a (c := 6) (by decide) hy
  have y9 : aB (nI y) (gN σ (t + 9)) := q.a (c := 7) (by decide) hy
  have gx8 : gE σ (t + 8) (nI x).toNatClampNeg = M x 6 := q.g (c := 6) (by decide) hx
  have gx9 : gE σ (t + 9) (nI x).toNatClampNeg = M x 7 := q.g (c := 7) (by decide) hx
  have gy8 : gE σ (t + 8) (nI y).toNatClampNeg = M y 6 := q.g (c := 6) (by decide) hy
  have gy9 : gE σ (t + 9) (nI y).toNatClampNeg = M y 7 := q.g (c := 7) (by decide) hy
  have place : ∀ σ1 : st_S, Lo t σ σ1 → aB (nI i) (gN σ1 (t + 3)) ∧ gE σ1 (t + 3) (nI i).toNatClampNeg = M i 1 := fun σ1 h => ⟨(h.cs q).a (c := 1) (by decide) hi, (h.cs q).g (c := 1) (by decide) hi⟩
  -- settle behind reckon
  have two : ∀ (A B : Int64), A.toInt ≠ -9223372036854775808 → ∀ G : st_S → Option (Int32 × st_S), ((F_74 N t (nI i) (st_l (st_l σ 42 7 A) 42 8 B)).bind fun p_20 => if p_20.1 = 0 then G p_20.2 else if aB (nI i) (gN p_20.2 (t + 3)) then some (p_20.1, st_i (p_20.2) 42 6 (gE (p_20.2) (t + 3) (nI i).toNatClampNeg)) else none) = match fra A B with
      | .inl f => some (nI f, st_i (st_l (st_l σ 42 7 A) 42 8 B) 42 6 (M i 1))
      | .inr z => G (st_e (st_e (st_l (st_l σ 42 7 A) 42 8 B) (t + 8) i z.1.toInt32) (t + 9) i z.2.toInt32) := by
    intro A B hA G
    have l2 : Lo t σ (st_l (st_l σ 42 7 A) 42 8 B) := Lo.two A B
    have j7 : gJ (st_l (st_l σ 42 7 A) 42 8 B) 42 7 = A := by
      show st_u (st_u σ.2.1 42 7 A) 42 8 B 42 7 = A
      rw [st_u_k _ _ _ _ (by decide), st_u_s]
    have j8 : gJ (st_l (st_l σ 42 7 A) 42 8 B) 42 8 = B := by
      show st_u (st_u σ.2.1 42 7 A) 42 8 B 42 8 = B
      rw [st_u_s]
    have f := F74' (N := N) (l2.cs q) hN hi (by rw [j7]; exact hA)
    rw [j7, j8] at f
    rw [f]
    obtain ⟨p1, p2⟩ := place _ l2
    cases hf : fra A B with
    | inl g =>
      have g6 : g = 6 := by
        unfold fra at hf
        split at hf
        · injection hf with hf; exact hf.symm
        · cases hf
      subst g6
      dsimp only
      rw [ob_some]
      dsimp only
      rw [if_neg (by decide), if_pos p1, p2]
    | inr z =>
      dsimp only
      rw [ob_some, if_pos rfl]
  obtain ⟨b1, b2⟩ := L_mB (a := u.1) (d := v.2) k1 (by omega)
  obtain ⟨b3, b4⟩ := L_mB (a := v.1) (d := u.2) m1 (by omega)
  obtain ⟨b5, b6⟩ := L_mB (a := u.1) (d := v.1) k1 m1
  have na : (-u.1).toInt = -u.1.toInt := L_neg (by omega)
  obtain ⟨b7, b8⟩ := L_mB (a := -u.1) (d := v.2) (by omega) (by omega)
  have f72 : F_72 N t (nI i) (nI op) σ = if op = 4 then some (0, st_l (st_l σ 42 7 (u.1 * v.2 + v.1 * u.2)) 42 8 (u.2 * v.2))
      else if op = 5 then some (0, st_l (st_l σ 42 7 (u.1 * v.2 - v.1 * u.2)) 42 8 (u.2 * v.2))
      else if op = 6 then some (0, st_l (st_l σ 42 7 (u.1 * v.1)) 42 8 (u.2 * v.2))
      else if op = 7 then some ((if lg_cmp v.1 0 = 0 then 7 else 0 : Int32), st_l (st_l σ 42 7 (if 0 ≤ lg_cmp v.1 0 then u.1 * v.2 else -u.1 * v.2)) 42 8 (if 0 ≤ lg_cmp v.1 0 then u.2 * v.1 else -u.2 * v.1))
      else if lg_cmp u.2 1 = 0 then (if lg_cmp v.2 1 = 0 then (if 0 < lg_cmp v.1 0 then ((F_73 N u.1 v.1 σ).bind fun p_17 => some (0, st_l (st_l (p_17.2) 42 7 p_17.1) 42 8 1)) else some (7, σ)) else some (8, σ)) else some (8, σ) := by
    unfold F_72
    rw [if_pos a4]
    simp only [g4, g5, if_pos x8, if_pos x9, if_pos a5, if_pos y8, if_pos y9, gx8, gx9, gy8, gy9, u1, u2, v1, v2]
    have n4 : nI op = 4 ↔ op = 4 := nI_eq (b := 4) (by omega) (by decide)
    have n5 : nI op = 5 ↔ op = 5 := nI_eq (b := 5) (by omega) (by decide)
    have n6 : nI op = 6 ↔ op = 6 := nI_eq (b := 6) (by omega) (by decide)
    have n7 : nI op = 7 ↔ op = 7 := nI_eq (b := 7) (by omega) (by decide)
    simp only [n4, n5, n6, n7]
  by_cases c4 : op = 4
  · refine ⟨_, Lo.two (u.1 * v.2 + v.1 * u.2) (u.2 * v.2), fun G => ?_⟩
    rw [f72, if_pos c4, ob_some, if_pos rfl, two _ _ (by rw [L_add (by omega) (by omega)]; omega) G]
    unfold rk
    rw [if_pos c4]
  rw [if_neg c4] at f72
  by_cases c5 : op = 5
  · refine ⟨_, Lo.two (u.1 * v.2 - v.1 * u.2) (u.2 * v.2), fun G => ?_⟩
    rw [f72, if_pos c5, ob_some, if_pos rfl, two _ _ (by rw [L_sub (by omega) (by omega)]; omega) G]
    unfold rk
    rw [if_neg c4, if_pos c5]
  rw [if_neg c5] at f72
  by_cases c6 : op = 6
  · refine ⟨_, Lo.two (u.1 * v.1) (u.2 * v.2), fun G => ?_⟩
    rw [f72, if_pos c6, ob_some, if_pos rfl, two _ _ (by omega) G]
    unfold rk
    rw [if_neg c4, if_neg c5, if_pos c6]
  rw [if_neg c6] at f72
  by_cases c7 : op = 7
  · rw [if_pos c7] at f72
    have erk : rk op u.1 u.2 v.1 v.2 = (if v.1 = 0 then .inl 7 else if v.1 < 0 then fra (-u.1 * v.2) (-u.2 * v.1) else fra (u.1 * v.2) (u.2 * v.1)) := by
      unfold rk
      rw [if_neg c4, if_neg c5, if_neg c6, if_pos c7]
    rw [erk]
    by_cases z : v.1 = 0
    · have z0 : lg_cmp v.1 0 = 0 := (lg_cmp_eq _ _).mpr z
      refine ⟨_, Lo.two (if 0 ≤ lg_cmp v.1 0 then u.1 * v.2 else -u.1 * v.2) (if 0 ≤ lg_cmp v.1 0 then u.2 * v.1 else -u.2 * v.1), fun G => ?_⟩
      obtain ⟨p1, p2⟩ := place _ (Lo.two (if 0 ≤ lg_cmp v.1 0 then u.1 * v.2 else -u.1 * v.2) (if 0 ≤ lg_cmp v.1 0 then u.2 * v.1 else -u.2 * v.1))
      rw [f72, ob_some, if_pos z]
      dsimp only
      rw [if_pos z0, if_neg (by decide), if_pos p1, p2]
      rfl
    · have z0 : ¬ lg_cmp v.1 0 = 0 := fun y => z ((lg_cmp_eq _ _).mp y)
      rw [if_neg z]
      by_cases ng : v.1 < 0
      · have g0 : ¬ 0 ≤ lg_cmp v.1 0 := fun y => absurd ((lg_cmp_ge _ _).mp y) (lg_lt_not_le ng)
        rw [if_neg g0, if_neg g0, if_neg z0] at f72
        rw [if_pos ng]
        refine ⟨_, Lo.two (-u.1 * v.2) (-u.2 * v.1), fun G => ?_⟩
        rw [f72, ob_some, if_pos rfl]
        exact two _ _ (by omega) G
      · have g0 : 0 ≤ lg_cmp v.1 0 := (lg_cmp_ge _ _).mpr (by
          rw [Int64.lt_iff_toInt_lt] at ng
          rw [Int64.le_iff_toInt_le]
          omega)
        rw [if_pos g0, if_pos g0, if_neg z0] at f72
        rw [if_neg ng]
        refine ⟨_, Lo.two (u.1 * v.2) (u.2 * v.1), fun G => ?_⟩
        rw [f72, ob_some, if_pos rfl]
        exact two _ _ (by omega) G
  rw [if_neg c7] at f72
  have erk : rk op u.1 u.2 v.1 v.2 = (if u.2 ≠ 1 ∨ v.2 ≠ 1 then .inl 8 else if v.1 ≤ 0 then .inl 7 else .inr (md u.1 v.1, 1)) := by
    unfold rk
    rw [if_neg c4, if_neg c5, if_neg c6, if_neg c7]
  rw [erk]
  have fl : ∀ f : Nat, f = 7 ∨ f = 8 → F_72 N t (nI i) (nI op) σ = some (nI f, σ) → ∃ σ1, Lo t σ σ1 ∧ ∀ G : st_S → Option (Int32 × st_S), ((F_72 N t (nI i) (nI op) σ).bind fun p_18 => if p_18.1 = 0 then ((F_74 N t (nI i) (p_18.2)).bind fun p_20 => if p_20.1 = 0 then G p_20.2 else if aB (nI i) (gN p_20.2 (t + 3)) then some (p_20.1, st_i (p_20.2) 42 6 (gE (p_20.2) (t + 3) (nI i).toNatClampNeg)) else none) else if aB (nI i) (gN p_18.2 (t + 3)) then some (p_18.1, st_i (p_18.2) 42 6 (gE (p_18.2) (t + 3) (nI i).toNatClampNeg)) else none) = some (nI f, st_i σ1 42 6 (M i 1)) := by
    intro f hf h72
    obtain ⟨p1, p2⟩ := place σ Lo.rf
    refine ⟨σ, Lo.rf, fun G => ?_⟩
    rw [h72, ob_some]
    dsimp only
    rw [if_neg (by rcases hf with rfl | rfl <;> decide), if_pos p1, p2]
  by_cases d1 : u.2 = 1
  · rw [if_pos ((lg_cmp_eq _ _).mpr d1)] at f72
    by_cases d2 : v.2 = 1
    · rw [if_pos ((lg_cmp_eq _ _).mpr d2)] at f72
      rw [if_neg (fun z => z.elim (fun y => y d1) (fun y => y d2))]
      by_cases d3 : v.1 ≤ 0
      · rw [if_neg (fun z => absurd ((lg_cmp_gt _ _).mp z) (fun y => by
          rw [Int64.lt_iff_toInt_lt] at y
          rw [Int64.le_iff_toInt_le] at d3
          omega))] at f72
        rw [if_pos d3]
        exact fl 7 (Or.inl rfl) f72
      · have d4 : 0 < v.1 := by
          rw [Int64.le_iff_toInt_le] at d3
          rw [Int64.lt_iff_toInt_lt]
          omega
        have d5 : 0 < v.1.toInt := by rw [Int64.lt_iff_toInt_lt, L0] at d4; exact d4
        rw [if_pos ((lg_cmp_gt _ _).mpr d4), F73' d5 k1 (by omega), ob_some] at f72
        rw [if_neg d3]
        obtain ⟨w1, w2⟩ := md_ok (a := u.1) (c := v.1) k1 d5 (by omega)
        refine ⟨_, Lo.two (md u.1 v.1) 1, fun G => ?_⟩
        rw [f72, ob_some, if_pos rfl, two (md u.1 v.1) 1 (by omega) G]
        have e : fra (md u.1 v.1) 1 = .inr (md u.1 v.1, 1) := by
          have d0 : dv (md u.1 v.1) 1 = 1 := dv_1 (by omega)
          have q1 : md u.1 v.1 / 1 = md u.1 v.1 := by
            apply Int64.toInt_inj.mp
            rw [lg_ldiv_nonneg w1 (by decide), L1, Int.ediv_one]
          have q2 : (1 : Int64) / 1 = 1 := by decide
          unfold fra
          rw [d0, q1, q2, if_neg]
          rw [Int64.le_iff_toInt_le, Int64.le_iff_toInt_le, LG, LGn]
          rintro (z | z | z)
          · omega
          · omega
          · exact absurd z (by decide)
        rw [e]
    · rw [if_neg (fun z => d2 ((lg_cmp_eq _ _).mp z))] at f72
      rw [if_pos (Or.inr d2)]
      exact fl 8 (Or.inr rfl) f72
  · rw [if_neg (fun z => d1 ((lg_cmp_eq _ _).mp z))] at f72
    rw [if_pos (Or.inl d1)]
    exact fl 8 (Or.inr rfl) f72
end MB
