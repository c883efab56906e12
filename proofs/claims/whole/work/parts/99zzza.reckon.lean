/-! the reference works out: numbers -/
/-- what putting a value on may change -/
abbrev FV (σ σ' : st_S) : Prop := Fr 0 [(66, 16), (66, 17), (66, 23)] [] [] [] [163, 164] σ σ'
/-- a value is put on, or it is a fault -/
def PuO (σ : st_S) (V : List (Int64 × Int64)) (pl : Nat) (o : Nat ⊕ (Int64 × Int64)) (r : Option st_S) : Prop := ∃ σ', r = some σ' ∧ FV σ σ' ∧ match o with
  | .inl f => gI σ' 66 16 = nI f ∧ gI σ' 66 17 = nI pl
  | .inr z => VS σ' (V ++ [z]) ∧ gI σ' 66 16 = gI σ 66 16
section RK
variable {N : Nat} {σ σ' : st_S} {V ks : List (Int64 × Int64)} {pl : Nat}
theorem puo_v (h : VS σ V) (hl : V.length < 16400) (u v : Int64) : PuO σ V pl (.inr (u, v)) (F_188 N u v σ) := by
  obtain ⟨σ', a1, a2, a3⟩ := F188' (N := N) h hl u v
  exact ⟨σ', a1, a3.mo (by simp) (by simp) (by simp) (by simp) (by simp), a2, a3.1 66 16 (by simp)⟩
theorem puo_f (f : Nat) : PuO σ V pl (.inl f) (F_165 N (nI f) (nI pl) σ) := by
  refine ⟨_, rfl, Fr.t0 (Fr.i σ _ (by simp)) (Fr.i _ _ (by simp)), rfl, rfl⟩
theorem cge (x y : Int64) : (0 ≤ lg_cmp x y) ↔ y ≤ x := lg_cmp_ge x y
theorem cle (x y : Int64) : (lg_cmp x y ≤ 0) ↔ x ≤ y := lg_cmp_le x y
theorem ceq (x y : Int64) : (lg_cmp x y = 0) ↔ x = y := lg_cmp_eq x y
theorem clt (x y : Int64) : (lg_cmp x y < 0) ↔ x < y := by
  rw [← Int32.not_le, cge, Int64.not_le]
theorem cgt (x y : Int64) : (0 < lg_cmp x y) ↔ y < x := by
  rw [← Int32.not_le, cle, Int64.not_le]
/-- a fraction is put on -/
theorem F195 (hN : 200 < N) (h : VS σ V) (hl : V.length < 16400) {x y : Int64} (hx : x.toInt ≠ -9223372036854775808) (hy : 0 < y.toInt) : PuO σ V pl (fra x y) (F_195 N x y (nI pl) σ) := by
  obtain ⟨d1, -⟩ := dv_ok hx hy
  have d0 : ¬ dv x y = 0 := fun z => by rw [z] at d1; exact absurd d1 (by decide)
  have J : PuO σ V pl (.inl 6) (J_195_46 N (nI pl) (x / dv x y) (y / dv x y) σ) := by
    obtain ⟨s1, a1, a2, a3, a4⟩ := puo_f (N := N) (σ := σ) (V := V) (pl := pl) 6
    have fr : Fr 0 [(66, 16), (66, 17)] [] [] [] [] σ s1 := by
      injection a1 with a1
      rw [← a1]
      exact Fr.t0 (Fr.i σ _ (by simp)) (Fr.i _ _ (by simp))
    have v1 : VS s1 V := h.fr fr (by simp) (by simp) (by simp) (by simp) (by simp)
    obtain ⟨s2, b1, b2, b3⟩ := F188' (N := N) v1 hl (x / dv x y) (y / dv x y)
    refine ⟨s2, ?_, Fr.t0 a2 (b3.mo (by simp) (by simp) (by simp) (by simp) (by simp)), (b3.1 66 16 (by simp)).trans a3, (b3.1 66 17 (by simp)).trans a4⟩
    unfold J_195_46
    have a1 : F_165 N 6 (nI pl) σ = some s1 := a1
    rw [a1, ob_some, b1, ob_some]
  unfold F_195
  rw [F196 hN hx hy, ob_some]
  dsimp only
  rw [if_pos d0]
  simp only [cge, cle, clt]
  unfold fra
  by_cases c1 : 1000000000 ≤ x / dv x y
  · rw [if_pos c1, if_pos (Or.inl c1)]
    exact J
  rw [if_neg c1]
  by_cases c2 : x / dv x y ≤ -1000000000
  · rw [if_pos c2, if_pos (Or.inr (Or.inl c2))]
    exact J
  rw [if_neg c2]
  by_cases c3 : y / dv x y < 1000000000
  · rw [if_pos c3, if_neg (fun z => by
      rcases z with z | z | z
      · exact c1 z
      · exact c2 z
      · exact absurd c3 (Int64.not_lt.mpr z))]
    obtain ⟨s, a1, a2⟩ := puo_v (N := N) (pl := pl) h hl (x / dv x y) (y / dv x y)
    exact ⟨s, by rw [a1, ob_some], a2⟩
  · rw [if_neg c3, if_pos (Or.inr (Or.inr (Int64.not_lt.mp c3)))]
    exact J
theorem mul_neg64 (b c : Int64) : -c * b = -b * c := by
  rw [Int64.neg_mul, Int64.neg_mul, Int64.mul_comm]
theorem puo_b {o : Nat ⊕ (Int64 × Int64)} {r : Option st_S} (h : PuO σ V pl o r) : PuO σ V pl o (r.bind fun p => some p) := by
  obtain ⟨s, a1, a2⟩ := h
  exact ⟨s, by rw [a1, ob_some], a2⟩
/-- two numbers are reckoned with -/
theorem F194 (hN : 200 < N) (h : VS σ V) (hl : V.length < 16400) {op : Nat} (ho : 4 ≤ op) (ho2 : op ≤ 8) {a b c d : Int64} (h1 : okv 1 (a, b)) (h2 : okv 1 (c, d)) : PuO σ V pl (rk op a b c d) (F_194 N (nI (opk op)) a b c d (nI pl) σ) := by
  obtain ⟨a1, a2, a3⟩ := okv1.mp h1
  obtain ⟨c1, c2, c3⟩ := okv1.mp h2
  dsimp only at a1 a2 a3 c1 c2 c3
  obtain ⟨m1, m2⟩ := L_mB (a := a) (d := d) a1 (by omega)
  obtain ⟨m3, m4⟩ := L_mB (a := c) (d := b) c1 (by omega)
  obtain ⟨m5, m6⟩ := L_mB (a := a) (d := c) a1 c1
  obtain ⟨p1, p2⟩ := L_mP a2 a3 c2 c3
  have na : (-a).toInt = -a.toInt := L_neg (by omega)
  have nbb : (-b).toInt = -b.toInt := L_neg (by omega)
  obtain ⟨m7, m8⟩ := L_mB (a := -a) (d := d) (by omega) (by omega)
  obtain ⟨m9, m10⟩ := L_mB (a := b) (d := c) (by omega) c1
  obtain ⟨m11, m12⟩ := L_mB (a := -b) (d := c) (by omega) c1
  have : op = 4 ∨ op = 5 ∨ op = 6 ∨ op = 7 ∨ op = 8 := by omega
  rcases this with rfl | rfl | rfl | rfl | rfl
  · exact puo_b (F195 hN h hl (by rw [L_add (by omega) (by omega)]; omega) p1)
  · exact puo_b (F195 hN h hl (by rw [L_sub (by omega) (by omega)]; omega) p1)
  · exact puo_b (F195 hN h hl (by omega) p1)
  · show PuO σ V pl (if c = 0 then .inl 7 else if c < 0 then fra (-a * d) (-b * c) else fra (a * d) (b * c)) (if lg_cmp c 0 = 0 then (F_165 N 7 (nI pl) σ).bind fun p => some p else (F_195 N (if 0 ≤ lg_cmp c 0 then (a * d) else ((-a) * d) : Int64) (if 0 ≤ lg_cmp c 0 then (c * b) else ((-c) * b) : Int64) (nI pl) σ).bind fun p => some p)
    simp only [ceq, cge]
    by_cases z0 : c = 0
    · rw [if_pos z0, if_pos z0]
      exact puo_b (puo_f 7)
    rw [if_neg z0, if_neg z0]
    have cne : c.toInt ≠ 0 := fun z => z0 (Int64.toInt_inj.mp (by rw [z, L0]))
    by_cases z1 : c < 0
    · have z2 : ¬ 0 ≤ c := Int64.not_le.mpr z1
      rw [if_pos z1, if_neg z2, if_neg z2, mul_neg64 b c]
      rw [Int64.lt_iff_toInt_lt, L0] at z1
      exact puo_b (F195 hN h hl (by omega) (by rw [m11, nbb]; exact Int.mul_pos_of_neg_of_neg (by omega) z1))
    · have z2 : 0 ≤ c := Int64.not_lt.mp z1
      rw [if_neg z1, if_pos z2, if_pos z2, Int64.mul_comm c b]
      rw [Int64.le_iff_toInt_le, L0] at z2
      exact puo_b (F195 hN h hl (by omega) (by rw [m9]; exact Int.mul_pos a2 (by omega)))
  · show PuO σ V pl (if b ≠ 1 ∨ d ≠ 1 then .inl 8 else if c ≤ 0 then .inl 7 else .inr (md a c, 1)) (if lg_cmp b 1 = 0 then (if lg_cmp d 1 = 0 then (if 0 < lg_cmp c 0 then (if ¬ (c : Int64) = 0 then (if 0 ≤ lg_cmp (a - a / c * c) 0 then (F_188 N (a - a / c * c) 1 σ).bind fun p => some p else (F_188 N ((a - a / c * c) + c) 1 σ).bind fun p => some p) else none) else (F_165 N 7 (nI pl) σ).bind fun p => some p) else (F_165 N 8 (nI pl) σ).bind fun p => some p) else (F_165 N 8 (nI pl) σ).bind fun p => some p)
    simp only [ceq, cgt, cge]
    by_cases z1 : b = 1
    · by_cases z2 : d = 1
      · rw [if_pos z1, if_pos z2, if_neg (fun z => z.elim (fun z => z z1) (fun z => z z2))]
        by_cases z3 : 0 < c
        · rw [if_pos z3, if_neg (Int64.not_le.mpr z3), if_pos (fun z => by rw [z] at z3; exact absurd z3 (by decide))]
          unfold md
          by_cases z4 : 0 ≤ a - a / c * c
          · rw [if_pos z4, if_neg (Int64.not_lt.mpr z4)]
            exact puo_b (puo_v h hl _ _)
          · rw [if_neg z4, if_pos (Int64.not_le.mp z4)]
            exact puo_b (puo_v h hl _ _)
        · rw [if_neg z3, if_pos (Int64.not_lt.mp z3)]
          exact puo_b (puo_f 7)
      · rw [if_pos z1, if_neg z2, if_pos (Or.inr z2)]
        exact puo_b (puo_f 8)
    · rw [if_neg z1, if_pos (Or.inl z1)]
      exact puo_b (puo_f 8)
/-- the better of two -/
def btr (op : Nat) (u v : Int64 × Int64) : Bool := if op = 20 then decide (v.1 * u.2 < u.1 * v.2) else decide (u.1 * v.2 < v.1 * u.2)
def bst (op : Nat) (u v : Int64 × Int64) : Int64 × Int64 := if btr op u v = true then v else u
theorem btr_20 {u v : Int64 × Int64} : btr 20 u v = true ↔ v.1 * u.2 < u.1 * v.2 := decide_eq_true_iff
theorem btr_21 {u v : Int64 × Int64} : btr 21 u v = true ↔ u.1 * v.2 < v.1 * u.2 := decide_eq_true_iff
theorem sub_lt0 {a b : Int64} (ha : a.toInt.natAbs < 1000000000000000000) (hb : b.toInt.natAbs < 1000000000000000000) : (a - b < 0 ↔ a < b) ∧ (a - b ≤ 0 ↔ a ≤ b) ∧ (a - b = 0 ↔ a = b) := by
  have e : (a - b).toInt = a.toInt - b.toInt := L_sub (by omega) (by omega)
  refine ⟨by rw [Int64.lt_iff_toInt_lt, Int64.lt_iff_toInt_lt, e, L0]; omega, by rw [Int64.le_iff_toInt_le, Int64.le_iff_toInt_le, e, L0]; omega, ?_⟩
  rw [← Int64.toInt_inj, ← Int64.toInt_inj, e, L0]
  omega
theorem L193 {op : Nat} (hop : op = 20 ∨ op = 21) {b : Nat} (hv : ∀ i, i < ks.length → okv 1 (ks.getD i (0, 0))) (hL : gN σ 163 = 16400 ∧ gN σ 164 = 16400) (hr : ∀ i, i < ks.length → gL σ 163 (b + i) = (ks.getD i (0, 0)).1 ∧ gL σ 164 (b + i) = (ks.getD i (0, 0)).2) (hb : b + ks.length ≤ 16400) : ∀ (q i f j : Nat), i + q = ks.length → j < i → q < f → ∃ k, k < ks.length ∧ L_193 N f (if op = 20 then 1 else 0 : Int32) (nI b) (nI ks.length) (nI (b + j)) (nI (b + i)) σ = (F_188 N (gL σ 163 (b + k)) (gL σ 164 (b + k)) σ).bind (fun p => some p) ∧ ks.getD k (0, 0) = (ks.drop i).foldl (bst op) (ks.getD j (0, 0)) := by
  intro q
  induction q with
  | zero =>
    intro i f j hi hj hf
    obtain ⟨f, rfl⟩ : ∃ k', f = k' + 1 := ⟨f - 1, by omega⟩
    refine ⟨j, by omega, ?_, ?_⟩
    · unfold L_193
      rw [show nI b + nI ks.length = nI (b + ks.length) from nI_add b ks.length, if_pos ((nI_lei (by omega) (by omega)).mpr (by omega)), if_pos (by rw [hL.1]; exact aB_nI (by omega) (by decide)), if_pos (by rw [hL.2]; exact aB_nI (by omega) (by decide)), nI_clamp (by omega)]
    · rw [List.drop_eq_nil_of_le (by omega)]
      rfl
  | succ q ih =>
    intro i f j hi hj hf
    obtain ⟨f, rfl⟩ : ∃ k', f = k' + 1 := ⟨f - 1, by omega⟩
    have hi' : i < ks.length := by omega
    have hj' : j < ks.length := by omega
    obtain ⟨u1, u2, u3⟩ := okv1.mp (hv j hj')
    obtain ⟨v1, v2, v3⟩ := okv1.mp (hv i hi')
    obtain ⟨m1, m2⟩ := L_mB (a := (ks.getD i (0, 0)).1) (d := (ks.getD j (0, 0)).2) v1 (by omega)
    obtain ⟨m3, m4⟩ := L_mB (a := (ks.getD j (0, 0)).1) (d := (ks.getD i (0, 0)).2) u1 (by omega)
    obtain ⟨s1, s2, -⟩ := sub_lt0 m2 m4
    have dr : ks.drop i = ks.getD i (0, 0) :: ks.drop (i + 1) := by
      rw [List.drop_eq_getElem_cons hi', List.getD_eq_getElem?_getD, List.getElem?_eq_getElem hi']
      rfl
    have e1 : nI (b + i) + 1 = nI (b + (i + 1)) := nI_1 _
    have stp : L_193 N (f + 1) (if op = 20 then 1 else 0 : Int32) (nI b) (nI ks.length) (nI (b + j)) (nI (b + i)) σ = L_193 N f (if op = 20 then 1 else 0 : Int32) (nI b) (nI ks.length) (if btr op (ks.getD j (0, 0)) (ks.getD i (0, 0)) = true then nI (b + i) else nI (b + j)) (nI (b + (i + 1))) σ := by
      conv => lhs; unfold L_193
      rw [show nI b + nI ks.length = nI (b + ks.length) from nI_add b ks.length, if_neg (fun z => by have := (nI_lei (by omega) (by omega)).mp z; omega), if_pos (by rw [hL.1]; exact aB_nI (by omega) (by decide)), if_pos (by rw [hL.2]; exact aB_nI (by omega) (by decide)), if_pos (by rw [hL.1]; exact aB_nI (by omega) (by decide)), if_pos (by rw [hL.2]; exact aB_nI (by omega) (by decide)), nI_clamp (by omega), nI_clamp (by omega), (hr i hi').1, (hr i hi').2, (hr j hj').1, (hr j hj').2, e1]
      rcases hop with rfl | rfl
      · rw [if_neg (show ¬ (if 20 = 20 then 1 else 0 : Int32) = 0 by decide)]
        by_cases c : btr 20 (ks.getD j (0, 0)) (ks.getD i (0, 0)) = true
        · rw [if_pos c, if_pos ((clt _ _).mpr (s1.mpr (btr_20.mp c)))]
        · rw [if_neg c, if_neg (fun z => c (btr_20.mpr (s1.mp ((clt _ _).mp z))))]
      · rw [if_pos (show (if 21 = 20 then 1 else 0 : Int32) = 0 by decide)]
        by_cases c : btr 21 (ks.getD j (0, 0)) (ks.getD i (0, 0)) = true
        · rw [if_pos c, if_neg (fun z => Int64.not_lt.mpr (s2.mp ((cle _ _).mp z)) (btr_21.mp c))]
        · rw [if_neg c, if_pos ((cle _ _).mpr (s2.mpr (Int64.not_lt.mp (fun z => c (btr_21.mpr z)))))]
    rw [stp, dr, List.foldl_cons]
    unfold bst
    by_cases c : btr op (ks.getD j (0, 0)) (ks.getD i (0, 0)) = true
    · rw [if_pos c, if_pos c]
      exact ih (i + 1) f i (by omega) (by omega) (by omega)
    · rw [if_neg c, if_neg c]
      exact ih (i + 1) f j (by omega) (by omega) (by omega)
/-- the best of some -/
theorem F193 (hN : 20000 < N) {op : Nat} (hop : op = 20 ∨ op = 21) (h : VS σ (V ++ ks)) (hb : V.length + ks.length ≤ 16400) {k0 : Int64 × Int64} {ks' : List (Int64 × Int64)} (hk : ks = k0 :: ks') (hv : ∀ k ∈ ks, okv 1 k) : PuO (st_i σ 66 23 (nI V.length)) V pl (.inr (ks'.foldl (bst op) k0)) (F_193 N (if op = 20 then 1 else 0 : Int32) (nI V.length) (nI ks.length) (st_i σ 66 23 (nI V.length))) := by
  obtain ⟨a1, a2, a3⟩ := h.off
  have hl : 1 ≤ ks.length := by rw [hk]; exact Nat.succ_le_succ (Nat.zero_le _)
  obtain ⟨k, k1, k2, k3⟩ := L193 (N := N) (σ := st_i σ 66 23 (nI V.length)) (ks := ks) hop (b := V.length) (fun i hi => hv _ (by rw [List.getD_eq_getElem?_getD, List.getElem?_eq_getElem hi]; exact List.getElem_mem hi)) ⟨a1.2.1, a1.2.2.1⟩ a3 hb (ks.length - 1) 1 N 0 (by omega) (by decide) (by omega)
  have e0 : ks.getD 0 (0, 0) = k0 := by rw [hk]; rfl
  have e1 : ks.drop 1 = ks' := by rw [hk]; rfl
  rw [e0, e1] at k3
  have r := a3 k k1
  rw [k3] at r
  unfold F_193
  rw [nI_1, show nI V.length = nI (V.length + 0) from rfl]
  rw [show nI (V.length + 0) = nI V.length from rfl] at *
  rw [show V.length + 1 = V.length + 1 from rfl]
  have k2 : L_193 N N (if op = 20 then 1 else 0 : Int32) (nI V.length) (nI ks.length) (nI V.length) (nI (V.length + 1)) (st_i σ 66 23 (nI V.length)) = _ := k2
  rw [k2]
  have r1 : gL (st_i σ 66 23 (nI V.length)) 163 (V.length + k) = _ := r.1
  have r2 : gL (st_i σ 66 23 (nI V.length)) 164 (V.length + k) = _ := r.2
  rw [r1, r2]
  exact puo_b (puo_v a1 (by omega) _ _)
end RK
