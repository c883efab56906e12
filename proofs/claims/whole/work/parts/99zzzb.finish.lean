/-! the reference works out: a node whose parts have values -/
section FI
variable {N g n : Nat} {σ σ' : st_S} {D : Nat → Nat → Int32} {V ks : List (Int64 × Int64)} {pl : Nat} {cs : List Nat}
theorem puo_i {o : Nat ⊕ (Int64 × Int64)} {r : Option st_S} {v : Int32} (h : PuO (st_i σ 66 23 v) V pl o r) : PuO σ V pl o r := by
  obtain ⟨s, a1, a2, a3⟩ := h
  refine ⟨s, a1, Fr.t0 (Fr.i σ v (by simp)) a2, ?_⟩
  cases o with
  | inl f => exact a3
  | inr z => exact a3
theorem L192k (hD : DS σ g n D) {l3 l4 : Int32} : ∀ (cs : List Nat) (v : Int32) (i : Nat), Pk D v cs → (∀ c ∈ cs, c < n) → n ≤ 20000 → ∀ f, L_192 N g (f + cs.length) l3 l4 (nI i) v σ = L_192 N g f l3 l4 (nI (i + cs.length)) (-1) σ := by
  intro cs
  induction cs with
  | nil =>
    intro v i hv _ _ f
    have hv : v = -1 := hv
    subst hv
    rfl
  | cons c cs ih =>
    intro v i hv hc hn f
    obtain ⟨hv1, hv2⟩ := hv
    have cn := hc c (List.mem_cons_self ..)
    have at5 : N_139 N (g + 11) (nI c) σ = some (D c 5, σ) := nf_at (hD 5 (by decide)) cn
    rw [List.length_cons, ← Nat.add_assoc]
    conv => lhs; unfold L_192
    rw [hv1, if_neg (fun z => by have := (nI_lti (b := 0) (by omega) (by decide)).mp z; omega), at5, ob_some]
    dsimp only
    rw [nI_1, ih (D c 5) (i + 1) hv2 (fun z hz => hc z (List.mem_cons_of_mem _ hz)) hn f, show i + 1 + cs.length = i + (cs.length + 1) by omega]
/-- up to the end of the count -/
theorem L192e (hN : 100000 < N) (hD : DS σ g n D) {a s : Nat} (ha : a < n) (hn : n ≤ 20000) (h0 : D a 0 = nI s) (h1 : D a 1 = nI pl) (hk : Pk D (D a 4) cs) (hc : ∀ c ∈ cs, c < n) (hl : cs.length ≤ 20000) : ∃ f, F_192 N g (nI a) σ = L_192 N g (f + 1) (nI s) (nI pl) (nI cs.length) (-1) σ := by
  have b0 : N_139 N (g + 1) (nI a) σ = some (D a 0, σ) := nf_at (hD 0 (by decide)) ha
  have b1 : N_139 N (g + 3) (nI a) σ = some (D a 1, σ) := nf_at (hD 1 (by decide)) ha
  have b4 : N_139 N (g + 9) (nI a) σ = some (D a 4, σ) := nf_at (hD 4 (by decide)) ha
  refine ⟨N - cs.length - 1, ?_⟩
  unfold F_192
  rw [b0, ob_some]
  dsimp only
  rw [b1, ob_some]
  dsimp only
  rw [b4, ob_some]
  dsimp only
  have := L192k (N := N) (l3 := D a 0) (l4 := D a 1) hD cs (D a 4) 0 hk hc hn (N - cs.length)
  rw [show N - cs.length + cs.length = N by omega, Nat.zero_add] at this
  rw [show N - cs.length - 1 + 1 = N - cs.length by omega]
  rw [h0, h1] at this
  rw [h0, h1]
  exact this
theorem F189' (h : VS σ V) (hl : V.length < 16400) {x : Int32} {b : Bool} (hx : x = 0 ↔ b = false) : PuO σ V pl (.inr (tv b)) (F_189 N x σ) := by
  have e : (if x = 0 then 0 else 1 : Int64) = (tv b).1 := by
    cases b with
    | false => rw [if_pos (hx.mpr rfl)]; rfl
    | true => rw [if_neg (fun z => Bool.noConfusion (hx.mp z))]; rfl
  unfold F_189
  rw [e]
  exact puo_b (puo_v h hl _ _)
variable {u v : Int64 × Int64}
theorem F192_16 (h : VS σ (V ++ [u])) (hl : V.length < 16400) (hu : okv 2 u) (f : Nat) : PuO σ V pl (.inr (vu 16 u)) (L_192 N g (f + 1) (nI 31) (nI pl) (nI 1) (-1) σ) := by
  obtain ⟨a1, a2, a3⟩ := h.off
  obtain ⟨r1, r2⟩ := a3 0 (show 0 < 1 by decide)
  have e : gI σ 66 23 - nI 1 = nI V.length := by
    rw [a2]
    exact nI_sub (a := V.length + 1) (b := 1) (by omega)
  apply puo_i (v := nI V.length)
  unfold L_192
  rw [if_pos (by decide), if_pos (by decide), e, if_pos (by rw [h.2.1]; exact aB_nI hl (by decide)), nI_clamp (by omega)]
  have r1 : gL σ 163 V.length = u.1 := r1
  rw [r1]
  have ev : vu 16 u = tv (decide (u.1 = 0)) := by
    obtain ⟨q1, q2⟩ := okv2.mp hu
    unfold vu tv
    rw [if_neg (by decide), if_pos rfl]
    rcases q1 with q | q <;> rw [q] <;> rfl
  rw [ev]
  refine puo_b (F189' a1 hl ?_)
  by_cases c : u.1 = 0
  · rw [if_pos ((ceq _ _).mpr c), decide_eq_true c]
    exact ⟨fun z => absurd z (by decide), fun z => Bool.noConfusion z⟩
  · rw [if_neg (fun z => c ((ceq _ _).mp z)), decide_eq_false c]
    exact ⟨fun _ => rfl, fun _ => rfl⟩
theorem F192_9 (h : VS σ (V ++ [u])) (hl : V.length < 16400) (f : Nat) : PuO σ V pl (.inr (vu 9 u)) (L_192 N g (f + 1) (nI 45) (nI pl) (nI 1) (-1) σ) := by
  obtain ⟨a1, a2, a3⟩ := h.off
  obtain ⟨r1, r2⟩ := a3 0 (show 0 < 1 by decide)
  have e : gI σ 66 23 - nI 1 = nI V.length := by
    rw [a2]
    exact nI_sub (a := V.length + 1) (b := 1) (by omega)
  apply puo_i (v := nI V.length)
  unfold L_192
  rw [if_pos (by decide), if_neg (by decide), if_pos (by decide), e, if_pos (by rw [h.2.1]; exact aB_nI hl (by decide)), if_pos (by rw [h.2.2.1]; exact aB_nI hl (by decide)), nI_clamp (by omega)]
  have r1 : gL σ 163 V.length = u.1 := r1
  have r2 : gL σ 164 V.length = u.2 := r2
  rw [r1, r2]
  exact puo_b (puo_v a1 hl _ _)
theorem F192_l (hN : 20000 < N) {s : Nat} (hs : s = 14 ∨ s = 15) (h : VS σ (V ++ ks)) (hb : V.length + ks.length ≤ 16400) {k0 : Int64 × Int64} {ks' : List (Int64 × Int64)} (hk : ks = k0 :: ks') (hv : ∀ k ∈ ks, okv 1 k) (f : Nat) : PuO σ V pl (.inr (ks'.foldl (bst (s + 6)) k0)) (L_192 N g (f + 1) (nI s) (nI pl) (nI ks.length) (-1) σ) := by
  have F := F193 (N := N) (pl := pl) hN (op := s + 6) (by omega) h hb hk hv
  obtain ⟨a1, a2, a3⟩ := h.off
  have e : gI σ 66 23 - nI ks.length = nI V.length := by
    rw [a2, nI_sub (by omega), Nat.add_sub_cancel]
  apply puo_i (v := nI V.length)
  unfold L_192
  rw [if_pos (show (-1 : Int32) < 0 by decide), e]
  rcases hs with rfl | rfl
  · rw [if_neg (by decide), if_neg (by decide), if_pos (by decide)]
    exact puo_b F
  · rw [if_neg (by decide), if_neg (by decide), if_neg (by decide), if_pos (by decide)]
    exact puo_b F
theorem F192_r (hN : 200 < N) {op : Nat} (ho : 4 ≤ op) (ho2 : op ≤ 8) (h : VS σ (V ++ [u, v])) (hl : V.length + 1 < 16400) (hu : okv 1 u) (hv : okv 1 v) (f : Nat) : PuO σ V pl (rk op u.1 u.2 v.1 v.2) (L_192 N g (f + 1) (nI (opk op)) (nI pl) (nI 2) (-1) σ) := by
  obtain ⟨a1, a2, a3⟩ := h.off
  have r1 : gL σ 163 V.length = u.1 := (a3 0 (show 0 < 2 by decide)).1
  have r2 : gL σ 164 V.length = u.2 := (a3 0 (show 0 < 2 by decide)).2
  have r3 : gL σ 163 (V.length + 1) = v.1 := (a3 1 (show 1 < 2 by decide)).1
  have r4 : gL σ 164 (V.length + 1) = v.2 := (a3 1 (show 1 < 2 by decide)).2
  have e : gI σ 66 23 - nI 2 = nI V.length := by
    rw [a2]
    exact nI_sub (a := V.length + 2) (b := 2) (by omega)
  have F := F194 (N := N) (pl := pl) hN a1 (by omega) ho ho2 hu hv
  have n1 : gN (st_i σ 66 23 (nI V.length)) 163 = 16400 := a1.2.1
  have n2 : gN (st_i σ 66 23 (nI V.length)) 164 = 16400 := a1.2.2.1
  have g1 : ∀ k, gL (st_i σ 66 23 (nI V.length)) 163 k = gL σ 163 k := fun _ => rfl
  have g2' : ∀ k, gL (st_i σ 66 23 (nI V.length)) 164 k = gL σ 164 k := fun _ => rfl
  have o : opk op = 24 ∨ opk op = 25 ∨ opk op = 26 ∨ opk op = 27 ∨ opk op = 28 := by
    have : op = 4 ∨ op = 5 ∨ op = 6 ∨ op = 7 ∨ op = 8 := by omega
    rcases this with rfl | rfl | rfl | rfl | rfl <;> decide
  apply puo_i (v := nI V.length)
  unfold L_192
  have k : ∀ s : Nat, (s = 24 ∨ s = 25 ∨ s = 26 ∨ s = 27 ∨ s = 28) → ¬ nI s = 31 ∧ ¬ nI s = 45 ∧ ¬ nI s = 14 ∧ ¬ nI s = 15 ∧ ∀ σ, F_157 N (nI s) σ = some (0, σ) := by
    intro s hs
    rcases hs with rfl | rfl | rfl | rfl | rfl <;> exact ⟨by decide, by decide, by decide, by decide, fun _ => rfl⟩
  obtain ⟨k1, k2, k3, k4, k5⟩ := k _ o
  rw [if_pos (show (-1 : Int32) < 0 by decide), if_neg k1, if_neg k2, if_neg k3, if_neg k4, e, k5, ob_some]
  dsimp only
  rw [if_pos rfl, nI_1, n1, n2, if_pos (aB_nI (by omega) (by decide)), if_pos (aB_nI (by omega) (by decide)), if_pos (aB_nI (by omega) (by decide)), if_pos (aB_nI (by omega) (by decide)), nI_clamp (by omega), nI_clamp (by omega), g1, g1, g2', g2', r1, r2, r3, r4]
  exact puo_b F
/-- two are compared -/
theorem F192_c {op kd : Nat} (ho : 10 ≤ op) (ho2 : op ≤ 15) (h : VS σ (V ++ [u, v])) (hl : V.length + 1 < 16400) (hu : okv kd u) (hv : okv kd v) (f : Nat) : PuO σ V pl (.inr (tv (cmpo op (u.1 * nb v.2) (v.1 * nb u.2)))) (L_192 N g (f + 1) (nI (opk op)) (nI pl) (nI 2) (-1) σ) := by
  obtain ⟨a1, a2, a3⟩ := h.off
  have r1 : gL σ 163 V.length = u.1 := (a3 0 (show 0 < 2 by decide)).1
  have r2 : gL σ 164 V.length = u.2 := (a3 0 (show 0 < 2 by decide)).2
  have r3 : gL σ 163 (V.length + 1) = v.1 := (a3 1 (show 1 < 2 by decide)).1
  have r4 : gL σ 164 (V.length + 1) = v.2 := (a3 1 (show 1 < 2 by decide)).2
  have e : gI σ 66 23 - nI 2 = nI V.length := by
    rw [a2]
    exact nI_sub (a := V.length + 2) (b := 2) (by omega)
  have n1 : gN (st_i σ 66 23 (nI V.length)) 163 = 16400 := a1.2.1
  have n2 : gN (st_i σ 66 23 (nI V.length)) 164 = 16400 := a1.2.2.1
  have g1 : ∀ k, gL (st_i σ 66 23 (nI V.length)) 163 k = gL σ 163 k := fun _ => rfl
  have g2' : ∀ k, gL (st_i σ 66 23 (nI V.length)) 164 k = gL σ 164 k := fun _ => rfl
  have o : op = 10 ∨ op = 11 ∨ op = 12 ∨ op = 13 ∨ op = 14 ∨ op = 15 := by omega
  have k : ¬ nI (opk op) = 31 ∧ ¬ nI (opk op) = 45 ∧ ¬ nI (opk op) = 14 ∧ ¬ nI (opk op) = 15 ∧ ∀ σ, F_157 N (nI (opk op)) σ = some (1, σ) := by
    rcases o with rfl | rfl | rfl | rfl | rfl | rfl <;> exact ⟨by decide, by decide, by decide, by decide, fun _ => rfl⟩
  obtain ⟨k1, k2, k3, k4, k5⟩ := k
  -- the two sides
  have fin : ∀ (x y : Int64), x.toInt.natAbs < 1000000000000000000 → y.toInt.natAbs < 1000000000000000000 → PuO (st_i σ 66 23 (nI V.length)) V pl (.inr (tv (cmpo op x y))) (if nI (opk op) = 23 then (F_189 N (if (lg_cmp (x - y) 0) = 0 then 1 else 0 : Int32) (st_i σ 66 23 (nI V.length))).bind fun p_28 => some p_28
      else if nI (opk op) = 18 then (F_189 N (if (lg_cmp (x - y) 0) = 0 then 0 else 1 : Int32) (st_i σ 66 23 (nI V.length))).bind fun p_31 => some p_31
      else (F_189 N (if nI (opk op) = 21 then (if 0 ≤ (lg_cmp (x - y) 0) then 0 else 1) else (if nI (opk op) = 19 then (if 0 < (lg_cmp (x - y) 0) then 0 else 1) else (if nI (opk op) = 22 then (if (lg_cmp (x - y) 0) ≤ 0 then 0 else 1) else (if (lg_cmp (x - y) 0) < 0 then 0 else 1))) : Int32) (st_i σ 66 23 (nI V.length))).bind fun p_39 => some p_39) := by
    intro x y hx hy
    obtain ⟨s1, s2, s3⟩ := sub_lt0 hx hy
    have b0 : ∀ (P : Prop) [Decidable P] (b : Bool), (P ↔ b = true) → ((if P then 1 else 0 : Int32) = 0 ↔ b = false) := fun P _ b hb => by
      by_cases c : P
      · rw [if_pos c, hb.mp c]
        exact ⟨fun z => absurd z (by decide), fun z => Bool.noConfusion z⟩
      · rw [if_neg c]
        exact ⟨fun _ => by cases hb' : b with
          | false => rfl
          | true => exact absurd (hb.mpr hb') c, fun _ => rfl⟩
    have b1 : ∀ (P : Prop) [Decidable P] (b : Bool), (P ↔ b = false) → ((if P then 0 else 1 : Int32) = 0 ↔ b = false) := fun P _ b hb => by
      by_cases c : P
      · rw [if_pos c]
        exact ⟨fun _ => hb.mp c, fun _ => rfl⟩
      · rw [if_neg c]
        exact ⟨fun z => absurd z (by decide), fun z => absurd (hb.mpr z) c⟩
    rcases o with rfl | rfl | rfl | rfl | rfl | rfl
    · exact puo_b (F189' a1 (by omega) (b0 _ _ (by rw [ceq, s3]; exact decide_eq_true_iff.symm)))
    · exact puo_b (F189' a1 (by omega) (b1 _ _ (by rw [ceq, s3]; show _ ↔ decide (x ≠ y) = false; rw [decide_eq_false_iff_not]; exact ⟨fun z q => q z, fun z => Decidable.byContradiction z⟩)))
    · exact puo_b (F189' a1 (by omega) (b1 _ _ (by rw [cge, ← Int64.not_lt, s1]; exact decide_eq_false_iff_not.symm)))
    · exact puo_b (F189' a1 (by omega) (b1 _ _ (by rw [cgt, ← Int64.not_le, s2]; exact decide_eq_false_iff_not.symm)))
    · exact puo_b (F189' a1 (by omega) (b1 _ _ (by rw [cle, s2]; show _ ↔ decide (y < x) = false; rw [decide_eq_false_iff_not, Int64.not_lt])))
    · exact puo_b (F189' a1 (by omega) (b1 _ _ (by rw [clt, s1]; show _ ↔ decide (y ≤ x) = false; rw [decide_eq_false_iff_not, Int64.not_le])))
  apply puo_i (v := nI V.length)
  unfold L_192
  rw [if_pos (show (-1 : Int32) < 0 by decide), if_neg k1, if_neg k2, if_neg k3, if_neg k4, e, k5, ob_some]
  dsimp only
  rw [if_neg (by decide), nI_1, n1, n2, if_pos (aB_nI (by omega) (by decide))]
  have c1 : (nI V.length).toNatClampNeg = V.length := nI_clamp (by omega)
  have c2 : (nI (V.length + 1)).toNatClampNeg = V.length + 1 := nI_clamp (by omega)
  simp only [c1, c2, g1, g2', r1, r2, r3, r4]
  rcases hu with ⟨rfl, hu1, hu2, hu3, hu4⟩ | ⟨rfl, hu1, hu2⟩
  · have hu := okv1.mp (show okv 1 u from Or.inl ⟨rfl, hu1, hu2, hu3, hu4⟩)
    have hv := okv1.mp hv
    have u0 : ¬ u.2 = 0 := fun z => by rw [z] at hu; exact absurd hu.2.1 (by decide)
    have v0 : ¬ v.2 = 0 := fun z => by rw [z] at hv; exact absurd hv.2.1 (by decide)
    have en : nb v.2 = v.2 ∧ nb u.2 = u.2 := ⟨if_neg v0, if_neg u0⟩
    obtain ⟨m1, m2⟩ := L_mB (a := u.1) (d := v.2) hu.1 (by omega)
    obtain ⟨m3, m4⟩ := L_mB (a := v.1) (d := u.2) hv.1 (by omega)
    rw [if_neg (fun z => u0 ((ceq _ _).mp z)), if_pos (aB_nI (by omega) (by decide)), if_pos (aB_nI (by omega) (by decide)), if_pos (aB_nI (by omega) (by decide)), en.1, en.2]
    exact fin _ _ m2 m4
  · obtain ⟨hv1, hv2⟩ := okv2.mp hv
    have en : nb v.2 = 1 ∧ nb u.2 = 1 := ⟨if_pos hv2, if_pos hu2⟩
    rw [if_pos ((ceq _ _).mpr hu2), if_pos (aB_nI (by omega) (by decide)), if_pos (aB_nI (by omega) (by decide)), en.1, en.2, Int64.mul_one, Int64.mul_one]
    exact fin _ _ (by rcases hu1 with z | z <;> rw [z] <;> decide) (by rcases hv1 with z | z <;> rw [z] <;> decide)
end FI
