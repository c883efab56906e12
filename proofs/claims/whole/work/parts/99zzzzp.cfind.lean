/-! the class explores: a state is found or added -/
theorem gw_N (σ : st_S) (b n m a : Nat) : gN (st_gw σ b n m) a = if a = b then m else gN σ a := by
  show va_up (gN σ) b m a = _
  by_cases c : a = b
  · rw [c, va_up_self, if_pos rfl]
  · rw [va_up_ne _ _ c, if_neg c]
theorem gw_E (σ : st_S) (b n m a j : Nat) : gE (st_gw σ b n m) a j = if a = b then (if j < n then gE σ b j else 0) else gE σ a j := by
  show va_up (gE σ) b (fun j => if j < n then gE σ b j else 0) a j = _
  by_cases c : a = b
  · rw [c, va_up_self, if_pos rfl]
  · rw [va_up_ne _ _ c, if_neg c]
theorem gw_fr2 {σ : st_S} {b n m : Nat} {I J R : List (Nat × Nat)} {A L : List Nat} (hn : gN σ b = n) (h16 : n + 16 ≤ m) (h2 : 2 * n ≤ m + 1) (hA : b ∈ A) (hg : b ∈ gra) : Fr 0 I J R A L σ (st_gw σ b n m) := by
  have hN : ∀ a, a ≠ b → va_up (gN σ) b m a = gN σ a := fun a ha => va_up_ne _ _ ha
  refine ⟨fun _ _ _ => rfl, fun _ _ _ => rfl, fun _ _ _ => rfl, fun a q => ?_, fun _ _ => rfl, ?_, ?_⟩
  · have ha : a ≠ b := fun e => q (e ▸ hA)
    exact ⟨hN a ha, va_up_ne _ _ ha⟩
  · exact gw_F σ b n m
  · have e := Ph_one (σ := σ) (σ' := st_gw σ b n m) (b := b) hN hg
    have e2 : gN (st_gw σ b n m) b = m := va_up_self _ _ _
    rw [e2, hn] at e
    show gB σ + m + 2 * Ph σ + gA σ ≤ gB σ + 2 * Ph (st_gw σ b n m) + (gA σ + 1) + 6 * 0 ∧ 16 * (gA σ + 1) + Ph σ ≤ 16 * gA σ + Ph (st_gw σ b n m) + 16 * 0 ∧ gC σ + 1 + gA σ ≤ gC σ + (gA σ + 1)
    generalize Ph (st_gw σ b n m) = P' at *
    generalize Ph σ = P at *
    exact ⟨by omega, by omega, by omega⟩
/-- states in the class's tables -/
def KPt (σ : st_S) (V : Nat) (P : Pst) : Prop := gI σ 52 9 = nI V ∧ gI σ 52 10 = nI P.1 ∧ P.1 ≤ 512 ∧ (gN σ 54 = 12 * gN σ 55 ∧ gN σ 56 = gN σ 55 + 1 ∧ 16 ≤ gN σ 55 ∧ gN σ 55 ≤ 1024 ∧ P.1 ≤ gN σ 55) ∧ gN σ 65 = 12 ∧ (∀ k, k < P.1 → ∀ v, v < V → gE σ 54 (12 * k + v) = P.2 k v) ∧ (gN σ 53 = 1024 ∧ ∃ tab, (∀ p, p < 1024 → gE σ 53 p = nI (tab p)) ∧ Htb V P tab) ∧ Dst V P
/-- what finding a state may change -/
abbrev FKf (σ σ' : st_S) : Prop := Fr 0 [(52, 10)] [] [] [53, 54, 55, 56] [] σ σ'
section CF
variable {N V : Nat} {σ σ' : st_S} {P : Pst} {nx : Vl} {I J Rr : List (Nat × Nat)} {A L : List Nat}
theorem KPt.fr (h : KPt σ V P) (fr : Fr 0 I J Rr A L σ σ') (h1 : (52, 9) ∉ I ∧ (52, 10) ∉ I) (h2 : 53 ∉ A ∧ 54 ∉ A ∧ 55 ∉ A ∧ 56 ∉ A) (h3 : gN σ' 65 = gN σ 65) : KPt σ' V P := by
  obtain ⟨p1, p2, p3, p4, p5, p6, ⟨p7, tab, p8, p9⟩, p10⟩ := h
  obtain ⟨a1, b1⟩ := fr.2.2.2.1 53 h2.1
  obtain ⟨a2, b2⟩ := fr.2.2.2.1 54 h2.2.1
  obtain ⟨a3, b3⟩ := fr.2.2.2.1 55 h2.2.2.1
  obtain ⟨a4, b4⟩ := fr.2.2.2.1 56 h2.2.2.2
  exact ⟨(fr.1 _ _ h1.1).trans p1, (fr.1 _ _ h1.2).trans p2, p3, by rw [a2, a3, a4]; exact p4, h3.trans p5, by rw [b2]; exact p6, ⟨a1.trans p7, tab, by rw [b1]; exact p8, p9⟩, p10⟩
theorem mul12' (k v : Nat) : (nI k * 12) + nI v = nI (12 * k + v) := by
  show nI k * nI 12 + nI v = _
  rw [pk_mul, nI_add, Nat.mul_comm]
theorem F111 (hN : 1000 < N) (hV : V ≤ 12) (h9 : gI σ 52 9 = nI V) (h65 : gN σ 65 = 12) (hx : ∀ v, v < V → gE σ 65 v = nx v) : F_111 N σ = some (nI (hsh V nx), σ) := by
  have L : ∀ (r v : Nat) (z : Int32), v + r = V → ∀ f, L_111 N (f + r + 1) z (nI v) σ = some (hmx (hfd nx r v z), σ) := by
    intro r
    induction r with
    | zero =>
      intro v z hv f
      rw [Nat.add_zero] at hv
      subst hv
      unfold L_111
      rw [h9, if_pos (Int32.le_refl _)]
      rfl
    | succ r ih =>
      intro v z hv f
      rw [show f + (r + 1) + 1 = f + r + 1 + 1 by omega]
      conv => lhs; unfold L_111
      rw [h9, if_neg (nle_nI (by omega) (by omega)), if_pos (by rw [h65]; exact aB_nI (by omega) (by decide)), nI_clamp (by omega), hx v (by omega), nI_1]
      have e : hfd nx (r + 1) v z = hfd nx r (v + 1) (hst z (nx v)) := by conv => lhs; unfold hfd
      rw [e]
      exact ih (v + 1) (hst z (nx v)) (by omega) f
  unfold F_111
  have := L V 0 0 (by omega) (N - V - 1)
  rw [show N - V - 1 + V + 1 = N by omega] at this
  rw [(hsh_ok V nx).1]
  exact this
theorem F112 (hN : 1000 < N) (hV : V ≤ 12) (h : KPt σ V P) (hx : ∀ v, v < V → gE σ 65 v = nx v) {k : Nat} (hk : k < P.1) : F_112 N (nI k) σ = some ((if smv V (P.2 k) nx = true then 1 else 0 : Int32), σ) := by
  obtain ⟨p1, p2, p3, ⟨p4, p4', p4'', p4b, p4c⟩, p5, p6, -⟩ := h
  have k12 : nI k * 12 = nI (12 * k) := by
    have := mul12' k 0
    rw [Nat.add_zero] at this
    rw [← this]
    exact (Int32.add_zero _).symm
  have L : ∀ (r v : Nat), v + r = V → (∀ u, u < v → P.2 k u = nx u) → ∀ f, L_112 N (f + r + 1) (nI (12 * k)) (nI v) σ = some ((if smv V (P.2 k) nx = true then 1 else 0 : Int32), σ) := by
    intro r
    induction r with
    | zero =>
      intro v hv hu f
      rw [Nat.add_zero] at hv
      subst hv
      unfold L_112
      rw [p1, if_pos (Int32.le_refl _), if_pos (smv_t.mpr hu)]
    | succ r ih =>
      intro v hv hu f
      rw [show f + (r + 1) + 1 = f + r + 1 + 1 by omega]
      conv => lhs; unfold L_112
      rw [p1, if_neg (nle_nI (by omega) (by omega)), nI_add, if_pos (aB_nI (by omega) (by omega)), if_pos (by rw [p5]; exact aB_nI (by omega) (by decide)), nI_clamp (by omega), nI_clamp (by omega), p6 k hk v (by omega), hx v (by omega), nI_1]
      by_cases c : P.2 k v = nx v
      · rw [if_pos c]
        exact ih (v + 1) (by omega) (fun u z => by
          by_cases q : u = v
          · rw [q]; exact c
          · exact hu u (by omega)) f
      · rw [if_neg c, if_neg (smv_f (v := v) (by omega) c)]
  unfold F_112
  rw [k12]
  have := L V 0 (by omega) (fun u z => by omega) (N - V - 1)
  rw [show N - V - 1 + V + 1 = N by omega] at this
  exact this
/-- the state is put down -/
theorem F113 (hV : V ≤ 12) (h9 : gI σ 52 9 = nI V) (h10 : gI σ 52 10 = nI P.1) (hS : P.1 < 512) (hl : gN σ 54 = 12 * gN σ 55 ∧ gN σ 56 = gN σ 55 + 1 ∧ 16 ≤ gN σ 55 ∧ gN σ 55 ≤ 1024 ∧ P.1 ≤ gN σ 55) (h65 : gN σ 65 = 12) (hx : ∀ v, v < V → gE σ 65 v = nx v) (hp : ∀ k, k < P.1 → ∀ v, v < V → gE σ 54 (12 * k + v) = P.2 k v) (hq : gC σ + 1000 < vz_M0) : ∃ σ', F_113 N σ = some σ' ∧ gI σ' 52 10 = nI (P.1 + 1) ∧ (gN σ' 54 = 12 * gN σ' 55 ∧ gN σ' 56 = gN σ' 55 + 1 ∧ 16 ≤ gN σ' 55 ∧ gN σ' 55 ≤ 1024 ∧ P.1 + 1 ≤ gN σ' 55) ∧ (∀ k, k < P.1 + 1 → ∀ v, v < V → gE σ' 54 (12 * k + v) = upv P.2 P.1 nx k v) ∧ gE σ' 55 P.1 = 0 ∧ (∀ j, j < P.1 → gE σ' 55 j = gE σ 55 j) ∧ (∀ j, j < gN σ 56 → gE σ' 56 j = gE σ 56 j) ∧ Fr 0 [(52, 10)] [] [] [54, 55, 56] [] σ σ' := by
  -- the last step, in a store with room
  have fin : ∀ s : st_S, gI s 52 9 = nI V → gI s 52 10 = nI P.1 → gN s 54 = 12 * gN s 55 → P.1 < gN s 55 → gN s 55 ≤ 1024 → gN s 65 = 12 → (∀ v, v < V → gE s 65 v = nx v) → (∀ k, k < P.1 → ∀ v, v < V → gE s 54 (12 * k + v) = P.2 k v) → ∃ σ', J_113_61 N s = some σ' ∧ gI σ' 52 10 = nI (P.1 + 1) ∧ gN σ' = gN s ∧ (∀ k, k < P.1 + 1 → ∀ v, v < V → gE σ' 54 (12 * k + v) = upv P.2 P.1 nx k v) ∧ gE σ' 55 P.1 = 0 ∧ (∀ j, j ≠ P.1 → gE σ' 55 j = gE s 55 j) ∧ (∀ j, gE σ' 56 j = gE s 56 j) ∧ Fr 0 [(52, 10)] [] [] [54, 55, 56] [] s σ' := by
    intro s s9 s10 s54 sl s1024 s65 sx sp
    have e12 : nI P.1 * 12 = nI (12 * P.1) := by
      show nI P.1 * nI 12 = _
      rw [pk_mul, Nat.mul_comm]
    have ac : acB (gN s 65) (gN s 54) 0 (nI P.1 * 12) (nI V) := by
      rw [e12]
      refine ⟨by decide, ?_, ?_, ?_, ?_⟩
      · exact fun z => by have := (nI_lti (b := 0) (by omega) (by decide)).mp z; omega
      · exact fun z => by have := (nI_lti (b := 0) (by omega) (by decide)).mp z; omega
      · rw [cl0, nI_clamp (by omega), s65]; omega
      · rw [nI_clamp (by omega), nI_clamp (by omega), s54]; omega
    obtain ⟨s', es⟩ : ∃ s', st_i (st_e (st_ac s 65 0 54 (12 * P.1) V) 55 P.1 0) 52 10 (nI (P.1 + 1)) = s' := ⟨_, rfl⟩
    have n0 : gN s' = gN s := by
      rw [← es]
      show va_up (gN s) 54 (gN s 54) = gN s
      funext a
      by_cases c : a = 54
      · rw [c, va_up_self]
      · rw [va_up_ne _ _ c]
    have gE' : ∀ a j, gE s' a j = if a = 55 ∧ j = P.1 then 0 else if a = 54 then va_cpy (gE s 65) (gE s 54) 0 (12 * P.1) V j else gE s a j := fun a j => by
      rw [← es]
      show st_u (va_up (gE s) 54 (va_cpy (gE s 65) (gE s 54) 0 (12 * P.1) V)) 55 P.1 0 a j = _
      by_cases c : a = 55 ∧ j = P.1
      · rw [if_pos c, c.1, c.2, st_u_s]
      · rw [if_neg c]
        have : st_u (va_up (gE s) 54 (va_cpy (gE s 65) (gE s 54) 0 (12 * P.1) V)) 55 P.1 0 a j = va_up (gE s) 54 (va_cpy (gE s 65) (gE s 54) 0 (12 * P.1) V) a j := if_neg c
        rw [this]
        by_cases c2 : a = 54
        · rw [if_pos c2, c2, va_up_self]
        · rw [if_neg c2, va_up_ne _ _ c2]
    refine ⟨s', ?_, by rw [← es]; rfl, n0, fun k hk v hv => ?_, ?_, fun j hj => ?_, fun j => ?_, ?_⟩
    · unfold J_113_61
      rw [s10, s9, if_pos ac, if_pos (aB_nI (by omega) (by omega)), e12, cl0, nI_clamp (by omega), nI_clamp (by omega), nI_clamp (by omega), nI_1, es]
    · rw [gE', if_neg (fun z => absurd z.1 (by decide)), if_pos rfl]
      show (if 12 * P.1 ≤ 12 * k + v ∧ 12 * k + v < 12 * P.1 + V then gE s 65 (0 + (12 * k + v - 12 * P.1)) else gE s 54 (12 * k + v)) = _
      by_cases ck : k = P.1
      · subst ck
        rw [if_pos ⟨by omega, by omega⟩, upv_s, show 0 + (12 * P.1 + v - 12 * P.1) = v by omega]
        exact sx v hv
      · rw [if_neg (by omega), upv_o _ _ ck]
        exact sp k (by omega) v hv
    · rw [gE', if_pos ⟨rfl, rfl⟩]
    · rw [gE', if_neg (fun z => hj z.2), if_neg (by decide)]
    · rw [gE', if_neg (fun z => absurd z.1 (by decide)), if_neg (by decide)]
    · refine ⟨fun a k z => ?_, fun a k z => by rw [← es]; rfl, fun a k z => by rw [← es]; rfl, fun a z => ⟨by rw [n0], funext fun j => ?_⟩, fun a z => by rw [← es]; rfl, by rw [← es]; rfl, Po.of n0 (by rw [← es]; rfl) (by rw [← es]; rfl) (by rw [← es]; rfl)⟩
      · rw [← es, gI_i, if_neg (by simpa using z)]
        rfl
      · simp only [List.mem_cons, List.not_mem_nil, or_false] at z
        rw [gE', if_neg (fun y => z (Or.inr (Or.inl y.1))), if_neg (fun y => z (Or.inl y))]
  obtain ⟨l1, l2, l3, l4, l5⟩ := hl
  unfold F_113
  by_cases c : P.1 < gN σ 55
  · obtain ⟨s', q1, q2, q3, q4, q5, q6, q7, q8⟩ := fin σ h9 h10 l1 c l4 h65 hx hp
    refine ⟨s', ?_, q2, by rw [q3]; exact ⟨l1, l2, l3, l4, by omega⟩, q4, q5, fun j hj => q6 j (by omega), fun j _ => q7 j, q8⟩
    rw [h10, if_pos ((nI_lti (by omega) (by omega)).mpr c)]
    exact q1
  · have el : P.1 = gN σ 55 := by omega
    have d1 : (2 : Int32) * nI (gN σ 55) = nI (2 * gN σ 55) := nI_dbl _
    have d2 : nI (2 * gN σ 55) * 12 = nI (24 * gN σ 55) := by
      show nI (2 * gN σ 55) * nI 12 = _
      rw [pk_mul, show 2 * gN σ 55 * 12 = 24 * gN σ 55 by omega]
    have k1 : (nI (24 * gN σ 55)).toNatClampNeg = 24 * gN σ 55 := nI_clamp (by omega)
    have k2 : (nI (2 * gN σ 55)).toNatClampNeg = 2 * gN σ 55 := nI_clamp (by omega)
    have k3 : (nI (2 * gN σ 55 + 1)).toNatClampNeg = 2 * gN σ 55 + 1 := nI_clamp (by omega)
    have pos : ∀ a : Nat, a < 2 ^ 31 → ¬ nI a < 0 := fun a ha z => by have := (nI_lti (b := 0) ha (by decide)).mp z; omega
    obtain ⟨s1, e1⟩ : ∃ s1, st_gw σ 54 (gN σ 54) (24 * gN σ 55) = s1 := ⟨_, rfl⟩
    obtain ⟨s2, e2⟩ : ∃ s2, st_gw s1 55 (gN σ 55) (2 * gN σ 55) = s2 := ⟨_, rfl⟩
    obtain ⟨s3, e3⟩ : ∃ s3, st_gw s2 56 (gN σ 56) (2 * gN σ 55 + 1) = s3 := ⟨_, rfl⟩
    have n1 : ∀ a, gN s1 a = if a = 54 then 24 * gN σ 55 else gN σ a := fun a => by rw [← e1, gw_N]
    have n2 : ∀ a, gN s2 a = if a = 55 then 2 * gN σ 55 else gN s1 a := fun a => by rw [← e2, gw_N]
    have n3 : ∀ a, gN s3 a = if a = 56 then 2 * gN σ 55 + 1 else gN s2 a := fun a => by rw [← e3, gw_N]
    have n55 : gN s1 55 = gN σ 55 := by rw [n1, if_neg (by decide)]
    have n56 : gN s2 56 = gN σ 56 := by rw [n2, if_neg (by decide), n1, if_neg (by decide)]
    have c1 : gC s1 = gC σ + 1 := by rw [← e1]; rfl
    have c2 : gC s2 = gC σ + 2 := by rw [← e2]; show gC s1 + 1 = _; rw [c1]
    have f1 : Fr 0 [(52, 10)] [] [] [54, 55, 56] [] σ s1 := by rw [← e1]; exact gw_fr2 rfl (by omega) (by omega) (by simp) (by decide)
    have f2 : Fr 0 [(52, 10)] [] [] [54, 55, 56] [] s1 s2 := by rw [← e2]; exact gw_fr2 n55 (by omega) (by omega) (by simp) (by decide)
    have f3 : Fr 0 [(52, 10)] [] [] [54, 55, 56] [] s2 s3 := by rw [← e3]; exact gw_fr2 n56 (by omega) (by omega) (by simp) (by decide)
    have g1 : ∀ a k, gI s3 a k = gI σ a k := fun a k => by rw [← e3, ← e2, ← e1]; rfl
    have E3 : ∀ a j, a ≠ 54 → a ≠ 55 → a ≠ 56 → gE s3 a j = gE σ a j := fun a j z1 z2 z3 => by rw [← e3, gw_E, if_neg z3, ← e2, gw_E, if_neg z2, ← e1, gw_E, if_neg z1]
    have E54 : ∀ j, j < gN σ 54 → gE s3 54 j = gE σ 54 j := fun j hj => by rw [← e3, gw_E, if_neg (by decide), ← e2, gw_E, if_neg (by decide), ← e1, gw_E, if_pos rfl, if_pos hj]
    have E55 : ∀ j, j < gN σ 55 → gE s3 55 j = gE σ 55 j := fun j hj => by rw [← e3, gw_E, if_neg (by decide), ← e2, gw_E, if_pos rfl, if_pos hj, ← e1, gw_E, if_neg (by decide)]
    have E56 : ∀ j, j < gN σ 56 → gE s3 56 j = gE σ 56 j := fun j hj => by rw [← e3, gw_E, if_pos rfl, if_pos hj, ← e2, gw_E, if_neg (by decide), ← e1, gw_E, if_neg (by decide)]
    have m55 : gN s3 55 = 2 * gN σ 55 := by rw [n3, if_neg (by decide), n2, if_pos rfl]
    have m54 : gN s3 54 = 24 * gN σ 55 := by rw [n3, if_neg (by decide), n2, if_neg (by decide), n1, if_pos rfl]
    have m56 : gN s3 56 = 2 * gN σ 55 + 1 := by rw [n3, if_pos rfl]
    have m65 : gN s3 65 = 12 := by rw [n3, if_neg (by decide), n2, if_neg (by decide), n1, if_neg (by decide)]; exact h65
    obtain ⟨s', q1, q2, q3, q4, q5, q6, q7, q8⟩ := fin s3 ((g1 _ _).trans h9) ((g1 _ _).trans h10) (by rw [m54, m55]; omega) (by rw [m55]; omega) (by rw [m55]; omega) m65 (fun v hv => by rw [E3 65 v (by decide) (by decide) (by decide)]; exact hx v hv) (fun k hk v hv => by rw [E54 _ (by omega)]; exact hp k hk v hv)
    refine ⟨s', ?_, q2, by rw [q3, m54, m55, m56]; exact ⟨by omega, by omega, by omega, by omega, by omega⟩, q4, q5, fun j hj => by rw [q6 j (by omega)]; exact E55 j (by omega), fun j hj => by rw [q7]; exact E56 j hj, Fr.t0 f1 (Fr.t0 f2 (Fr.t0 f3 q8))⟩
    rw [h10, if_neg (fun z => c ((nI_lti (by omega) (by omega)).mp z)), d1, d2, nI_1, if_pos (show gwB σ 54 (nI (24 * gN σ 55)) from ⟨pos _ (by omega), by rw [k1]; omega, by rw [k1]; omega, by omega⟩), show st_gw σ 54 (gN σ 54) (nI (24 * gN σ 55)).toNatClampNeg = s1 by rw [k1]; exact e1, if_pos (show gwB s1 55 (nI (2 * gN σ 55)) from ⟨pos _ (by omega), by rw [k2, n55]; omega, by rw [k2]; omega, by omega⟩), show st_gw s1 55 (gN σ 55) (nI (2 * gN σ 55)).toNatClampNeg = s2 by rw [k2]; exact e2, if_pos (show gwB s2 56 (nI (2 * gN σ 55 + 1)) from ⟨pos _ (by omega), by rw [k3, n56]; omega, by rw [k3]; omega, by omega⟩), show st_gw s2 56 (gN σ 56) (nI (2 * gN σ 55 + 1)).toNatClampNeg = s3 by rw [k3]; exact e3]
    exact q1
/-- the class finds a state, or adds it -/
theorem F110 (hN : 2000 < N) (hV : V ≤ 12) (h : KPt σ V P) (hx : ∀ v, v < V → gE σ 65 v = nx v) (hq : gC σ + 1000 < vz_M0) : match xgo V P nx with
    | none => F_110 N σ = some (-1, σ)
    | some q => ∃ σ', F_110 N σ = some (nI q.1, σ') ∧ KPt σ' V q.2 ∧ FKf σ σ' ∧ (∀ j, j < P.1 → gE σ' 55 j = gE σ 55 j) ∧ (∀ j, P.1 ≤ j → j < q.2.1 → gE σ' 55 j = 0) ∧ ∀ j, j < gN σ 56 → gE σ' 56 j = gE σ 56 j := by
  obtain ⟨p1, p2, p3, p4, p5, p6, ⟨p7, tab, p8, p9⟩, p10⟩ := id h
  obtain ⟨hh, hlt⟩ := hsh_ok V nx
  obtain ⟨dz, z1, z2⟩ := p9.zero (nx := nx) (by omega)
  have ml : ∀ d, (hsh V nx + d) % 1024 < 1024 := fun d => Nat.mod_lt _ (by decide)
  have nxt : ∀ d, (nI ((hsh V nx + d) % 1024) + 1) &&& 1023 = nI ((hsh V nx + (d + 1)) % 1024) := fun d => by
    rw [nI_1, and1023 _ (ml d)]
    congr 1
    omega
  -- what the search comes to
  have L : ∀ (r d : Nat), d + r = 1024 → (∀ d', d' < d → tab ((hsh V nx + d') % 1024) ≠ 0 ∧ ¬ smv V (P.2 (tab ((hsh V nx + d') % 1024) - 1)) nx = true) → ∀ f, (∃ k, k < P.1 ∧ smv V (P.2 k) nx = true ∧ L_110 N (f + r + 1) (nI ((hsh V nx + d) % 1024)) (nI d) σ = some (nI k, σ)) ∨ (∃ d1, d1 < 1024 ∧ tab ((hsh V nx + d1) % 1024) = 0 ∧ (∀ d', d' < d1 → tab ((hsh V nx + d') % 1024) ≠ 0 ∧ ¬ smv V (P.2 (tab ((hsh V nx + d') % 1024) - 1)) nx = true) ∧ L_110 N (f + r + 1) (nI ((hsh V nx + d) % 1024)) (nI d) σ = J_110_63 N (nI ((hsh V nx + d1) % 1024)) σ) := by
    intro r
    induction r with
    | zero =>
      intro d hd hu f
      exact absurd z2 (hu dz (by omega)).1
    | succ r ih =>
      intro d hd hu f
      have c1 : ¬ (1024 : Int32) ≤ nI d := nle_nI (a := 1024) (by omega) (by decide)
      have e53 := p8 _ (ml d)
      have tb := p9.1 _ (ml d)
      rw [show f + (r + 1) + 1 = f + r + 1 + 1 by omega]
      have st : L_110 N (f + r + 1 + 1) (nI ((hsh V nx + d) % 1024)) (nI d) σ = if nI (tab ((hsh V nx + d) % 1024)) = 0 then J_110_63 N (nI ((hsh V nx + d) % 1024)) σ else (F_112 N (nI (tab ((hsh V nx + d) % 1024)) - 1) σ).bind fun p_5 => if p_5.1 = 0 then L_110 N (f + r + 1) (nI ((hsh V nx + (d + 1)) % 1024)) (nI (d + 1)) (p_5.2) else if aB (nI ((hsh V nx + d) % 1024)) (gN p_5.2 53) then some (((gE (p_5.2) 53 (nI ((hsh V nx + d) % 1024)).toNatClampNeg) - 1), p_5.2) else none := by
        conv => lhs; unfold L_110
        rw [if_neg c1, if_pos (by rw [p7]; exact aB_nI (ml d) (by decide)), show gE σ 53 (nI ((hsh V nx + d) % 1024)).toNatClampNeg = nI (tab ((hsh V nx + d) % 1024)) by rw [nI_clamp (by have := ml d; omega)]; exact e53, nxt, nI_1]
      by_cases c0 : tab ((hsh V nx + d) % 1024) = 0
      · refine Or.inr ⟨d, by omega, c0, hu, ?_⟩
        rw [st, c0, if_pos (by decide)]
      · have k1 : nI (tab ((hsh V nx + d) % 1024)) - 1 = nI (tab ((hsh V nx + d) % 1024) - 1) := nI_sub (b := 1) (by omega)
        rw [st, if_neg (show ¬ nI (tab ((hsh V nx + d) % 1024)) = 0 from nik (m := 0) (by omega) (by decide) c0), k1, F112 (by omega) hV h hx (by omega), ob_some]
        dsimp only
        by_cases cs : smv V (P.2 (tab ((hsh V nx + d) % 1024) - 1)) nx = true
        · refine Or.inl ⟨tab ((hsh V nx + d) % 1024) - 1, by omega, cs, ?_⟩
          rw [if_pos cs, if_neg (by decide), if_pos (by rw [p7]; exact aB_nI (ml d) (by decide)), nI_clamp (by have := ml d; omega), e53, k1]
        · rw [if_neg cs, if_pos rfl]
          exact ih (d + 1) (by omega) (fun d' hd' => by
            by_cases q : d' = d
            · rw [q]; exact ⟨c0, cs⟩
            · exact hu d' (by omega)) f
  have S0 := L 1024 0 (by omega) (fun d' z => by omega) (N - 1024 - 1)
  rw [show N - 1024 - 1 + 1024 + 1 = N by omega, Nat.add_zero, Nat.mod_eq_of_lt hlt] at S0
  have e0 : F_110 N σ = L_110 N N (nI (hsh V nx)) (nI 0) σ := by
    unfold F_110
    rw [F111 (by omega) hV p1 p5 hx, ob_some]
    rfl
  rw [e0]
  unfold xgo
  rcases S0 with ⟨k, k1, k2, k3⟩ | ⟨d, d1, d2, d3, d4⟩
  · have : fsv V P.2 nx P.1 0 = some k := fsv_at (Nat.zero_le _) (by omega) k2 (fun i _ z2 y => p10 i k z2 k1 (smv_tr y (smv_sy k2)))
    rw [this]
    dsimp only
    exact ⟨σ, k3, h, Fr.rf σ, fun _ _ => rfl, fun j z1 z2 => absurd z2 (Nat.not_lt.mpr z1), fun _ _ => rfl⟩
  · have no := p9.no d2 d1 (fun d' z => (d3 d' z).2)
    have fn : fsv V P.2 nx P.1 0 = none := fsv_no (fun i _ z2 => no i (by omega))
    rw [fn, d4]
    dsimp only
    by_cases c : P.1 = 512
    · rw [if_pos c]
      show J_110_63 N _ σ = _
      unfold J_110_63
      rw [p2, c, if_neg (by decide)]
    · rw [if_neg c]
      dsimp only
      obtain ⟨s1, es⟩ : ∃ s1, st_e σ 53 ((hsh V nx + d) % 1024) (nI (P.1 + 1)) = s1 := ⟨_, rfl⟩
      have f1 : Fr 0 [] [] [] [53] [] σ s1 := by rw [← es]; exact Fr.e _ _ _ (by simp)
      have n1 : gN s1 = gN σ := by rw [← es]; rfl
      have c1 : gC s1 = gC σ := by rw [← es]; rfl
      obtain ⟨s2, q1, q2, q3, q4, q5, q6, q7, q8⟩ := F113 (N := N) (σ := s1) (P := P) (nx := nx) hV ((f1.1 _ _ (by simp)).trans p1) ((f1.1 _ _ (by simp)).trans p2) (by omega) (by rw [n1]; exact p4) (by rw [n1]; exact p5) (fun v hv => by rw [(f1.2.2.2.1 65 (by simp)).2]; exact hx v hv) (fun k hk v hv => by rw [(f1.2.2.2.1 54 (by simp)).2]; exact p6 k hk v hv) (by rw [c1]; omega)
      have f12 : FKf σ s2 := Fr.t0 (f1.mo (by simp) (by simp) (by simp) (by simp) (by simp)) (q8.mo (by simp) (by simp) (by simp) (by intro a q; simp only [List.mem_cons, List.not_mem_nil, or_false] at q ⊢; omega) (by simp))
      have k1 : nI (P.1 + 1) - 1 = nI P.1 := by
        have := nI_sub (a := P.1 + 1) (b := 1) (by omega)
        rw [Nat.add_sub_cancel] at this
        exact this
      refine ⟨s2, ?_, ⟨(f12.1 52 9 (by simp)).trans p1, q2, by show P.1 + 1 ≤ 512; omega, q3, by rw [(q8.2.2.2.1 65 (by simp)).1, n1]; exact p5, q4, ⟨by rw [(q8.2.2.2.1 53 (by simp)).1, n1]; exact p7, upv tab ((hsh V nx + d) % 1024) (P.1 + 1), fun p hp => ?_, p9.add d2 d1 (fun d' z => (d3 d' z).1)⟩, p10.add fn⟩, f12, fun j hj => by rw [q6 j hj, (f1.2.2.2.1 55 (by simp)).2], fun j z1 z2 => ?_, fun j hj => by rw [q7 j (by rw [n1]; exact hj), (f1.2.2.2.1 56 (by simp)).2]⟩
      · unfold J_110_63
        rw [p2, if_pos (show nI P.1 < 512 from (nI_lti (b := 512) (by omega) (by decide)).mpr (by omega)), if_pos (by rw [p7]; exact aB_nI (ml d) (by decide)), nI_clamp (by have := ml d; omega), nI_1, es, q1, ob_some, q2, k1]
      · rw [(q8.2.2.2.1 53 (by simp)).2, ← es, gE_e]
        unfold upv
        by_cases cp : p = (hsh V nx + d) % 1024
        · rw [if_pos ⟨rfl, cp⟩, if_pos cp]
        · rw [if_neg (fun z => cp z.2), if_neg cp]
          exact p8 p hp
      · have z2 : j < P.1 + 1 := z2
        rw [show j = P.1 by omega]
        exact q5
end CF
