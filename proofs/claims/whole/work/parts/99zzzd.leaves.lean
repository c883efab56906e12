/-! the reference works out: leaves and choices -/
section WL
variable {N g n : Nat} {σ σ0 σ' : st_S} {D : Nat → Nat → Int32} {w : List (Nat × Nat × Nat)} {l : List Int32} {E : List En} {vs : Nat → Int32} {fa : Nat → Nat} {cc : Bool} {m : Nat} {R : List (Nat × Nat)} {V ks : List (Int64 × Int64)}
/-- a leaf's sort and value -/
theorem F187s (G : GW N g n l w E vs fa cc m σ0 D) (h : WQ l w E vs m σ0 σ R V) {a : Nat} (ha : a < n) : N_139 N (g + 1) (nI a) σ = some (D a 0, σ) ∧ N_139 N (g + 9) (nI a) σ = some (D a 4, σ) ∧ N_139 N (g + 7) (nI a) σ = some (D a 3, σ) ∧ N_139 N (g + 11) (nI a) σ = some (D a 5, σ) := by
  obtain ⟨hg, hN, -, hq, hn, -, -, hD, -⟩ := G
  have hD1 : DS σ g n D := hD.fw hg h.1
  exact ⟨nf_at (hD1 0 (by decide)) ha, nf_at (hD1 4 (by decide)) ha, nf_at (hD1 3 (by decide)) ha, nf_at (hD1 5 (by decide)) ha⟩
theorem F187n (G : GW N g n l w E vs fa cc m σ0 D) (h : WQ l w E vs m σ0 σ R V) {a : Nat} (ha : a < n) (hV : V.length < 16400) (h0 : D a 0 = nI 2) : PuO σ V 0 (.inr ((D a 3).toInt64, 1)) (F_187 N g (nI a) σ) := by
  obtain ⟨b0, b4, b3, -⟩ := F187s G h ha
  unfold F_187
  rw [b0, ob_some]
  dsimp only
  rw [b4, ob_some]
  dsimp only
  rw [h0, if_neg (by decide), if_pos (by decide), b3, ob_some]
  exact puo_b (puo_v h.2.2.1 hV _ _)
theorem F187t (G : GW N g n l w E vs fa cc m σ0 D) (h : WQ l w E vs m σ0 σ R V) {a s : Nat} (ha : a < n) (hV : V.length < 16400) (hs : s = 12 ∨ s = 13) (h0 : D a 0 = nI s) : PuO σ V 0 (.inr (if s = 12 then (1, 0) else (0, 0))) (F_187 N g (nI a) σ) := by
  obtain ⟨b0, b4, b3, -⟩ := F187s G h ha
  unfold F_187
  rw [b0, ob_some]
  dsimp only
  rw [b4, ob_some]
  dsimp only
  rw [h0]
  rcases hs with rfl | rfl
  · rw [if_pos (show 12 = 12 from rfl), if_neg (by decide), if_neg (by decide), if_pos (by decide)]
    exact puo_b (F189' (b := true) h.2.2.1 hV ⟨fun z => absurd z (by decide), fun z => Bool.noConfusion z⟩)
  · rw [if_neg (show ¬ 13 = 12 by decide), if_neg (by decide), if_neg (by decide), if_neg (by decide), if_pos (by decide)]
    exact puo_b (F189' (b := false) h.2.2.1 hV ⟨fun _ => rfl, fun _ => rfl⟩)
theorem F187m (G : GW N g n l w E vs fa cc m σ0 D) (h : WQ l w E vs m σ0 σ R V) {a : Nat} (ha : a < n) (h0 : D a 0 = nI 1) : F_187 N g (nI a) σ = (F_190 N g (D a 3) σ).bind fun p => some p := by
  obtain ⟨b0, b4, b3, -⟩ := F187s G h ha
  unfold F_187
  rw [b0, ob_some]
  dsimp only
  rw [b4, ob_some]
  dsimp only
  rw [h0, if_pos (by decide), b3, ob_some]
/-- a const -/
theorem F190c (G : GW N g n l w E vs fa cc m σ0 D) (h : WQ l w E vs m σ0 σ R V) {j : Nat} (hj : j < E.length) (s1 : (E.getD j eN).2.1 = 1) (hV : V.length < 16400) : PuO σ V 0 (.inr (E.getD j eN).2.2.2.2.1) (F_190 N g (vix E j) σ) := by
  obtain ⟨hg, hN, -, hq, hn, -, -, hD, hT, -⟩ := G
  obtain ⟨⟨t1, t2, t3, t4, t5, t6, t7, t8⟩, t9, -⟩ := hT
  obtain ⟨r1, r2, r3, r4⟩ := t9 j hj s1
  have fr := h.1
  have A : ∀ a, a ≠ 166 → a ≠ 168 → gN σ a = gN σ0 a ∧ gE σ a = gE σ0 a := fun a z1 z2 => fr.2.2.2.1 a (by simp [z1, z2])
  have L : ∀ a, a ≠ 163 → a ≠ 164 → a ≠ 169 → a ≠ 170 → gL σ a = gL σ0 a := fun a z1 z2 z3 z4 => fr.2.2.2.2.1 a (by simp [z1, z2, z3, z4])
  have e : vix E j = nI (rnm E j) := if_neg (by omega)
  rw [e]
  unfold F_190
  rw [if_pos (show nI (rnm E j) < 100 from (nI_lti (b := 100) (by omega) (by decide)).mpr (by omega)), (A (g + 13) (by omega) (by omega)).1, (A (g + 13) (by omega) (by omega)).2, (A (g + 16) (by omega) (by omega)).1, (A (g + 17) (by omega) (by omega)).1, L (g + 16) (by omega) (by omega) (by omega) (by omega), L (g + 17) (by omega) (by omega) (by omega) (by omega), t1, t3, t4, if_pos (aB_nI r1 (by decide))]
  have cl : (nI (rnm E j)).toNatClampNeg = rnm E j := nI_clamp (by omega)
  simp only [cl]
  rw [r2, if_pos rfl, if_pos (aB_nI r1 (by decide)), if_pos (aB_nI r1 (by decide)), r3, r4]
  exact puo_b (puo_v h.2.2.1 hV _ _)
/-- a var -/
theorem F190v (G : GW N g n l w E vs fa cc m σ0 D) (h : WQ l w E vs m σ0 σ R V) {j : Nat} (hj : j < E.length) (s1 : (E.getD j eN).2.1 = 3) (hV : V.length < 16400) : PuO σ V 0 (.inr ((vs (E.getD j eN).2.2.2.2.2.2.1).toInt64, if (E.getD j eN).2.2.1 then 0 else 1)) (F_190 N g (vix E j) σ) := by
  obtain ⟨hg, hN, -, hq, hn, -, -, hD, hT, -⟩ := G
  obtain ⟨⟨t1, t2, t3, t4, t5, t6, t7, t8⟩, -, t9, -⟩ := hT
  obtain ⟨r1, r2, r3⟩ := t9 j hj s1
  have fr := h.1
  have A : ∀ a, a ≠ 166 → a ≠ 168 → gN σ a = gN σ0 a ∧ gE σ a = gE σ0 a := fun a z1 z2 => fr.2.2.2.1 a (by simp [z1, z2])
  have e : vix E j = nI (100 + rnm E j) := if_pos s1
  have e2 : nI (100 + rnm E j) - 100 = nI (rnm E j) := by
    have := nI_sub (a := 100 + rnm E j) (b := 100) (by omega)
    rw [Nat.add_sub_cancel_left] at this
    exact this
  rw [e]
  unfold F_190
  rw [if_neg (show ¬ nI (100 + rnm E j) < 100 from fun z => by have := (nI_lti (b := 100) (by omega) (by decide)).mp z; omega), e2, (A 167 (by decide) (by decide)).1, (A 167 (by decide) (by decide)).2, (A (g + 18) (by omega) (by omega)).1, (A (g + 18) (by omega) (by omega)).2, t5, t6, if_pos (aB_nI r1 (by decide)), if_pos (aB_nI r1 (by decide)), nI_clamp (by omega), r2, r3]
  have k : (if (if (E.getD j eN).2.2.1 = true then 1 else 0 : Int32) = 0 then 1 else 0 : Int64) = if (E.getD j eN).2.2.1 = true then 0 else 1 := by
    cases (E.getD j eN).2.2.1 with
    | true => rfl
    | false => rfl
  rw [k]
  exact puo_b (puo_v h.2.2.1 hV _ _)
/-- a formula that was met; one that wasn't -/
theorem F190f (G : GW N g n l w E vs fa cc m σ0 D) (h : WQ l w E vs m σ0 σ R V) {j : Nat} (hj : j < m) (s1 : (E.getD j eN).2.1 = 2) (hV : V.length < 16400) (hR : R.length ≤ 24800) : (∃ v, fvn l w E vs j = .inr v ∧ PuO σ V 0 (.inr v) (F_190 N g (vix E j) σ)) ∨ (∃ σ', F_190 N g (vix E j) σ = some σ' ∧ WQ l w E vs m σ0 σ' (R ++ [(3, rnm E j)] ++ [(0, fa j)]) V) := by
  obtain ⟨hg, hN, -, hq, hn, -, -, hD, hT, -⟩ := G
  obtain ⟨⟨t1, t2, t3, t4, t5, t6, t7, t8⟩, -, -, -, t9, -⟩ := hT
  obtain ⟨⟨r1, r2, r3⟩, -⟩ := t9 j hj s1
  have fr := h.1
  have A : ∀ {s : st_S}, FW σ0 s → ∀ a, a ≠ 166 → a ≠ 168 → gN s a = gN σ0 a ∧ gE s a = gE σ0 a := fun fr a z1 z2 => fr.2.2.2.1 a (by simp [z1, z2])
  have e : vix E j = nI (rnm E j) := if_neg (by omega)
  have hm := h.2.2.2.2
  rw [e]
  have b : F_190 N g (nI (rnm E j)) σ = if gE σ 168 (rnm E j) = 0 then ((F_186 N 3 (nI (rnm E j)) σ).bind fun p_9 => if aB (nI (rnm E j)) (gN p_9 (g + 15)) then ((F_186 N 0 (gE p_9 (g + 15) (rnm E j)) p_9).bind fun p_11 => some p_11) else none) else (F_188 N (gL σ 169 (rnm E j)) (gL σ 170 (rnm E j)) σ).bind fun p => some p := by
    unfold F_190
    rw [if_pos (show nI (rnm E j) < 100 from (nI_lti (b := 100) (by omega) (by decide)).mpr (by omega)), (A fr (g + 13) (by omega) (by omega)).1, (A fr (g + 13) (by omega) (by omega)).2, t1, if_pos (aB_nI r1 (by decide))]
    have cl : (nI (rnm E j)).toNatClampNeg = rnm E j := nI_clamp (by omega)
    simp only [cl]
    rw [r2, if_neg (by decide), hm.1, (A fr 169 (by decide) (by decide)).1, (A fr 170 (by decide) (by decide)).1, t7, t8, if_pos (aB_nI r1 (by decide)), if_pos (aB_nI r1 (by decide)), if_pos (aB_nI r1 (by decide))]
  rw [b]
  by_cases c : gE σ 168 (rnm E j) = 0
  · right
    rw [if_pos c]
    obtain ⟨s1, a1, a2⟩ := wq_push (N := N) hq h (by omega) 3 (rnm E j)
    obtain ⟨s2, a3, a4⟩ := wq_push (N := N) hq a2 (by rw [List.length_append]; show R.length + 1 ≤ _; omega) 0 (fa j)
    have a1 : F_186 N 3 (nI (rnm E j)) σ = some s1 := a1
    have a3 : F_186 N 0 (nI (fa j)) s1 = some s2 := a3
    refine ⟨s2, ?_, a4⟩
    rw [a1, ob_some, (A a2.1 (g + 15) (by omega) (by omega)).1, (A a2.1 (g + 15) (by omega) (by omega)).2, t2, if_pos (aB_nI r1 (by decide)), r3, a3, ob_some]
  · left
    rw [if_neg c]
    rcases hm.2 j hj s1 with z | z
    · exact absurd z c
    · exact ⟨_, z, puo_b (puo_v h.2.2.1 hV _ _)⟩
/-- values are taken off -/
theorem WQ.off (h : WQ l w E vs m σ0 σ R (V ++ ks)) : WQ l w E vs m σ0 (st_i σ 66 23 (nI V.length)) R V := by
  obtain ⟨h1, h2, h3, h4, h5⟩ := h
  have fr : Fr 0 [(66, 23)] [] [] [] [] σ (st_i σ 66 23 (nI V.length)) := Fr.i σ _ (by simp)
  exact ⟨Fr.t0 h1 (fr.mo (by simp) (by simp) (by simp) (by simp) (by simp)), h2.fr fr (by simp) (by simp), h3.off.1, (fr.1 66 16 (by simp)).trans h4, h5.fr fr (by simp) (by simp) (by simp)⟩
/-- a choice -/
theorem F197s (G : GW N g n l w E vs fa cc m σ0 D) {u : Int64 × Int64} (h : WQ l w E vs m σ0 σ R (V ++ [u])) (hV : V.length + 1 ≤ 16400) {a s c0 c1 : Nat} (ha : a < n) (h0 : D a 0 = nI s) (h4 : D a 4 = nI c0) (hc0 : c0 < n) (h5 : D c0 5 = nI c1) : F_197 N g (nI a) σ = if nI s = 32 then (if (if u.1 = 1 then 1 else 0 : Int32) = 0 then ((N_139 N (g + 11) (nI c1) (st_i σ 66 23 (nI V.length))).bind fun p_8 => (F_186 N 0 p_8.1 (p_8.2)).bind fun p_9 => some (p_9)) else (F_186 N 0 (nI c1) (st_i σ 66 23 (nI V.length))).bind fun p_10 => some (p_10))
      else if (if u.1 = 1 then 1 else 0 : Int32) = (if nI s = 29 then 1 else 0 : Int32) then (F_186 N 0 (nI c1) (st_i σ 66 23 (nI V.length))).bind fun p_13 => some (p_13) else some σ := by
  obtain ⟨b0, b4, -, -⟩ := F187s G h ha
  obtain ⟨-, -, -, b5⟩ := F187s G h hc0
  obtain ⟨a1, a2, a3⟩ := h.2.2.1.off
  have e : gI σ 66 23 - 1 = nI V.length := by
    rw [a2]
    exact nI_sub (a := V.length + 1) (b := 1) (by omega)
  have r1 : gL σ 163 V.length = u.1 := (a3 0 (show 0 < 1 by decide)).1
  have k : (if lg_cmp u.1 1 = 0 then 1 else 0 : Int32) = if u.1 = 1 then 1 else 0 := by
    by_cases c : u.1 = 1
    · rw [if_pos c, if_pos ((ceq _ _).mpr c)]
    · rw [if_neg c, if_neg (fun z => c ((ceq _ _).mp z))]
  unfold F_197
  rw [b0, ob_some]
  dsimp only
  rw [e, if_pos (by rw [h.2.2.1.2.1]; exact aB_nI (by omega) (by decide)), b4, ob_some]
  dsimp only
  rw [h4, b5, ob_some]
  dsimp only
  rw [h5, h0, nI_clamp (by omega), r1, k, e]
theorem F197a (G : GW N g n l w E vs fa cc m σ0 D) {u : Int64 × Int64} (h : WQ l w E vs m σ0 σ R (V ++ [u])) (hV : V.length + 1 ≤ 16400) (hR : R.length ≤ 24800) {a c0 c1 c2 : Nat} (ha : a < n) (h0 : D a 0 = nI 32) (h4 : D a 4 = nI c0) (hc0 : c0 < n) (h5 : D c0 5 = nI c1) (hc1 : c1 < n) (h6 : D c1 5 = nI c2) : ∃ σ', F_197 N g (nI a) σ = some σ' ∧ WQ l w E vs m σ0 σ' (R ++ [(0, if u.1 = 1 then c1 else c2)]) V := by
  have hq := G.2.2.2.1
  have F := F197s G h hV ha h0 h4 hc0 h5
  rw [if_pos (by decide)] at F
  have ho := h.off
  obtain ⟨-, -, -, b5⟩ := F187s G ho hc1
  by_cases c : u.1 = 1
  · rw [if_pos c, if_neg (by decide)] at F
    obtain ⟨s1, a1, a2⟩ := wq_push (N := N) hq ho (by omega) 0 c1
    have a1 : F_186 N 0 (nI c1) (st_i σ 66 23 (nI V.length)) = some s1 := a1
    rw [a1, ob_some] at F
    rw [if_pos c]
    exact ⟨s1, F, a2⟩
  · rw [if_neg c, if_pos (by decide)] at F
    obtain ⟨s1, a1, a2⟩ := wq_push (N := N) hq ho (by omega) 0 c2
    have a1 : F_186 N 0 (nI c2) (st_i σ 66 23 (nI V.length)) = some s1 := a1
    rw [b5, ob_some] at F
    dsimp only at F
    rw [h6, a1, ob_some] at F
    rw [if_neg c]
    exact ⟨s1, F, a2⟩
theorem F197b (G : GW N g n l w E vs fa cc m σ0 D) {u : Int64 × Int64} (h : WQ l w E vs m σ0 σ R (V ++ [u])) (hV : V.length + 1 ≤ 16400) (hR : R.length ≤ 24800) {a s c0 c1 : Nat} (ha : a < n) (hs : s = 29 ∨ s = 30) (h0 : D a 0 = nI s) (h4 : D a 4 = nI c0) (hc0 : c0 < n) (h5 : D c0 5 = nI c1) : ∃ σ', F_197 N g (nI a) σ = some σ' ∧ ((u.1 = 1 ↔ s = 29) → WQ l w E vs m σ0 σ' (R ++ [(0, c1)]) V) ∧ (¬ (u.1 = 1 ↔ s = 29) → WQ l w E vs m σ0 σ' R (V ++ [u])) := by
  have hq := G.2.2.2.1
  have F := F197s G h hV ha h0 h4 hc0 h5
  have ho := h.off
  obtain ⟨s1, a1, a2⟩ := wq_push (N := N) hq ho (by omega) 0 c1
  have a1 : F_186 N 0 (nI c1) (st_i σ 66 23 (nI V.length)) = some s1 := a1
  rw [a1, ob_some, if_neg (by rcases hs with rfl | rfl <;> decide)] at F
  by_cases c : u.1 = 1
  · rcases hs with rfl | rfl
    · rw [if_pos c, if_pos (by decide)] at F
      exact ⟨s1, F, fun _ => a2, fun z => absurd ⟨fun _ => rfl, fun _ => c⟩ z⟩
    · rw [if_pos c, if_neg (by decide)] at F
      exact ⟨σ, F, fun z => absurd (z.mp c) (by decide), fun _ => h⟩
  · rcases hs with rfl | rfl
    · rw [if_neg c, if_neg (by decide)] at F
      exact ⟨σ, F, fun z => absurd (z.mpr rfl) c, fun _ => h⟩
    · rw [if_neg c, if_pos (by decide)] at F
      exact ⟨s1, F, fun _ => a2, fun z => absurd ⟨fun q => absurd q c, fun q => absurd q (by decide)⟩ z⟩
/-- a formula's value is kept -/
theorem wq_met (G : GW N g n l w E vs fa cc m σ0 D) (h : WQ l w E vs m σ0 σ R V) {j : Nat} (hj : j < m) (s1 : (E.getD j eN).2.1 = 2) {v : Int64 × Int64} (hv : fvn l w E vs j = .inr v) : WQ l w E vs m σ0 (st_E (st_E (st_e σ 168 (rnm E j) 1) 169 (rnm E j) v.1) 170 (rnm E j) v.2) R V := by
  obtain ⟨hg, hN, -, hq, hn, -, -, hD, hT, -⟩ := G
  obtain ⟨-, -, -, -, -, hI⟩ := hT
  obtain ⟨h1, h2, h3, h4, h5, h6⟩ := h
  have fr : Fr 0 [] [] [] [168] [169, 170] σ (st_E (st_E (st_e σ 168 (rnm E j) 1) 169 (rnm E j) v.1) 170 (rnm E j) v.2) := Fr.t0 (Fr.e σ _ _ (by simp)) (Fr.t0 (Fr.E _ _ _ (by simp)) (Fr.E _ _ _ (by simp)))
  refine ⟨Fr.t0 h1 (fr.mo (by simp) (by simp) (by simp) (by simp) (by simp)), h2.fr fr (by simp) (by simp), h3.fr fr (by simp) (by simp) (by simp) (by simp) (by simp), (fr.1 66 16 (by simp)).trans h4, h5, fun i hi si => ?_⟩
  have x8 : gE (st_E (st_E (st_e σ 168 (rnm E j) 1) 169 (rnm E j) v.1) 170 (rnm E j) v.2) 168 (rnm E i) = if 168 = 168 ∧ rnm E i = rnm E j then 1 else gE σ 168 (rnm E i) := rfl
  have x9 : gL (st_E (st_E (st_e σ 168 (rnm E j) 1) 169 (rnm E j) v.1) 170 (rnm E j) v.2) 169 (rnm E i) = if 169 = 170 ∧ rnm E i = rnm E j then v.2 else if 169 = 169 ∧ rnm E i = rnm E j then v.1 else gL σ 169 (rnm E i) := rfl
  have x0 : gL (st_E (st_E (st_e σ 168 (rnm E j) 1) 169 (rnm E j) v.1) 170 (rnm E j) v.2) 170 (rnm E i) = if 170 = 170 ∧ rnm E i = rnm E j then v.2 else if 170 = 169 ∧ rnm E i = rnm E j then v.1 else gL σ 170 (rnm E i) := rfl
  rw [x8, x9, x0]
  by_cases c : i = j
  · subst c
    right
    rw [if_neg (by omega), if_pos ⟨rfl, rfl⟩, if_pos ⟨rfl, rfl⟩]
    exact hv
  · have ne : rnm E i ≠ rnm E j := by
      rcases Nat.lt_or_gt_of_ne c with z | z
      · exact (hI i j z hj si s1).1
      · exact fun q => (hI j i z hi s1 si).1 q.symm
    rw [if_neg (fun z => ne z.2), if_neg (fun z => ne z.2), if_neg (fun z => ne z.2), if_neg (fun z => ne z.2), if_neg (fun z => ne z.2)]
    exact h6 i hi si
end WL
