/-! the reference explores: a state's values; a state is found -/
section RF
variable {N g k V c6 : Nat} {σ : st_S}
theorem mul12 (k v : Nat) : (12 * nI k) + nI v = nI (12 * k + v) := by
  show nI 12 * nI k + nI v = _
  rw [pk_mul, nI_add]
theorem nle_nI {a b : Nat} (h : b < a) (ha : a < 2 ^ 31) : ¬ nI a ≤ nI b := fun z => by
  have := (nI_lei ha (by omega)).mp z
  omega
theorem le_nI {a b : Nat} (h : a ≤ b) (hb : b < 2 ^ 31) : nI a ≤ nI b := (nI_lei (by omega) hb).mpr h
theorem L212a (hV : V ≤ 12) (hk : k < 512) : ∀ (r v : Nat) (s : st_S), v + r = V → gI s g 12 = nI V → gN s 171 = 6144 → gN s 167 = 12 → ∃ s', (∀ f, L_212 N g (f + r) 2 (nI k) (nI v) s = L_212 N g f 2 (nI k) (nI V) s') ∧ Fr 0 [] [] [] [167] [] s s' ∧ gN s' = gN s ∧ (∀ u, v ≤ u → u < V → gE s' 167 u = gE s 171 (12 * k + u)) ∧ (∀ u, u < v → gE s' 167 u = gE s 167 u) := by
  intro r
  induction r with
  | zero =>
    intro v s hv _ _ _
    rw [Nat.add_zero] at hv
    subst hv
    exact ⟨s, fun f => rfl, Fr.rf s, rfl, fun u h1 h2 => by omega, fun _ _ => rfl⟩
  | succ r ih =>
    intro v s hv h1 h2 h3
    have st : ∀ f, L_212 N g (f + 1) 2 (nI k) (nI v) s = L_212 N g f 2 (nI k) (nI (v + 1)) (st_e s 167 v (gE s 171 (12 * k + v))) := fun f => by
      conv => lhs; unfold L_212
      rw [if_pos rfl, h1, if_neg (nle_nI (by omega) (by omega)), mul12, if_pos (aB_nI (by omega) (by omega)), if_pos (aB_nI (by omega) (by omega)), nI_clamp (by omega), nI_clamp (by omega), nI_1]
    obtain ⟨s', a1, a2, a3, a4, a5⟩ := ih (v + 1) (st_e s 167 v (gE s 171 (12 * k + v))) (by omega) h1 h2 h3
    refine ⟨s', fun f => by rw [← Nat.add_assoc, st, a1], Fr.t0 (Fr.e s v _ (by simp)) a2, a3, fun u z1 z2 => ?_, fun u z => ?_⟩
    · by_cases c : u = v
      · subst c
        rw [a5 u (by omega), gE_e, if_pos ⟨rfl, rfl⟩]
      · rw [a4 u (by omega) z2, gE_e, if_neg (by omega)]
    · rw [a5 u (by omega), gE_e, if_neg (by omega)]
theorem L212b (h6 : c6 ≤ 60) : ∀ (r i : Nat) (s : st_S), i + r = c6 → gI s g 6 = nI c6 → gN s 168 = 60 → ∃ s', (∀ f, L_212 N g (f + r + 1) 38 0 (nI i) s = some s') ∧ Fr 0 [] [] [] [168] [] s s' ∧ gN s' = gN s ∧ (∀ u, i ≤ u → u < c6 → gE s' 168 u = 0) ∧ (∀ u, u < i → gE s' 168 u = gE s 168 u) := by
  intro r
  induction r with
  | zero =>
    intro i s hi h1 h2
    rw [Nat.add_zero] at hi
    subst hi
    refine ⟨s, fun f => ?_, Fr.rf s, rfl, fun u h1 h2 => by omega, fun _ _ => rfl⟩
    unfold L_212
    rw [if_neg (by decide), h1, if_pos (Int32.le_refl _)]
  | succ r ih =>
    intro i s hi h1 h2
    have st : ∀ f, L_212 N g (f + 1) 38 0 (nI i) s = L_212 N g f 38 0 (nI (i + 1)) (st_e s 168 i 0) := fun f => by
      conv => lhs; unfold L_212
      rw [if_neg (by decide), h1, if_neg (nle_nI (by omega) (by omega)), if_pos (aB_nI (by omega) (by omega)), nI_clamp (by omega), nI_1]
      rfl
    obtain ⟨s', a1, a2, a3, a4, a5⟩ := ih (i + 1) (st_e s 168 i 0) (by omega) h1 h2
    refine ⟨s', fun f => by rw [show f + (r + 1) + 1 = f + r + 1 + 1 by omega, st, a1], Fr.t0 (Fr.e s i _ (by simp)) a2, a3, fun u z1 z2 => ?_, fun u z => ?_⟩
    · by_cases c : u = i
      · subst c
        rw [a5 u (by omega), gE_e, if_pos ⟨rfl, rfl⟩]
      · exact a4 u (by omega) z2
    · rw [a5 u (by omega), gE_e, if_neg (by omega)]
/-- a state's values are taken, nothing is met -/
theorem F212 (hN : 1000 < N) (hV : V ≤ 12) (hk : k < 512) (h6 : c6 ≤ 60) (e1 : gI σ g 12 = nI V) (e2 : gI σ g 6 = nI c6) (h7 : gN σ 171 = 6144) (h8 : gN σ 167 = 12) (h9 : gN σ 168 = 60) : ∃ σ', F_212 N g (nI k) σ = some σ' ∧ Fr 0 [] [] [] [167, 168] [] σ σ' ∧ gN σ' = gN σ ∧ (∀ u, u < V → gE σ' 167 u = gE σ 171 (12 * k + u)) ∧ ∀ u, u < c6 → gE σ' 168 u = 0 := by
  obtain ⟨s1, a1, a2, a3, a4, -⟩ := L212a (N := N) (g := g) hV hk V 0 σ (by omega) e1 h7 h8
  obtain ⟨s2, b1, b2, b3, b4, -⟩ := L212b (N := N) (g := g) h6 c6 0 s1 (by omega) (by rw [a2.1 g 6 (by simp)]; exact e2) (by rw [a3]; exact h9)
  refine ⟨s2, ?_, Fr.t0 (a2.mo (by simp) (by simp) (by simp) (by simp) (by simp)) (b2.mo (by simp) (by simp) (by simp) (by simp) (by simp)), b3.trans a3, fun u hu => ?_, fun u hu => b4 u (Nat.zero_le _) hu⟩
  · unfold F_212
    have := a1 (N - V - c6 - 2 + c6 + 1 + 1)
    rw [show N - V - c6 - 2 + c6 + 1 + 1 + V = N by omega] at this
    refine (show L_212 N g N 2 (nI k) 0 σ = _ from this).trans ?_
    conv => lhs; unfold L_212
    rw [if_pos rfl, a2.1 g 12 (by simp), e1, if_pos (Int32.le_refl _)]
    exact b1 _
  · rw [(b2.2.2.2.1 167 (by decide)).2]
    exact a4 u (Nat.zero_le _) hu
/-- states in the reference's table -/
def RPt (σ : st_S) (V : Nat) (P : Pst) : Prop := gI σ 66 29 = nI P.1 ∧ 1 ≤ P.1 ∧ P.1 ≤ 512 ∧ gN σ 171 = 6144 ∧ ∀ k, k < P.1 → ∀ v, v < V → gE σ 171 (12 * k + v) = P.2 k v
variable {P : Pst} {nx : Vl}
theorem smv_f {a b : Vl} {v : Nat} (h : v < V) (h2 : a v ≠ b v) : ¬ smv V a b = true := fun z => h2 (smv_t.mp z v h)
theorem L218i (hV : V ≤ 12) (e1 : gI σ g 12 = nI V) (h : RPt σ V P) (h4 : gN σ 184 = 12) (hx : ∀ v, v < V → gE σ 184 v = nx v) (hk : k < P.1) : ∀ (r v : Nat), v + r = V → (∀ u, u < v → P.2 k u = nx u) → ∃ j, j ≤ r + 2 ∧ ((smv V (P.2 k) nx = true ∧ ∀ f, L_218 N g (f + j) 14 (nI k) 1 (nI v) σ = some (nI k, σ)) ∨ (¬ smv V (P.2 k) nx = true ∧ ∀ f, L_218 N g (f + j) 14 (nI k) 1 (nI v) σ = L_218 N g f 2 (nI (k + 1)) 0 0 σ)) := by
  obtain ⟨p1, p0, p2, p3, p4⟩ := h
  intro r
  induction r with
  | zero =>
    intro v hv hu
    rw [Nat.add_zero] at hv
    subst hv
    refine ⟨1, by omega, Or.inl ⟨smv_t.mpr hu, fun f => ?_⟩⟩
    unfold L_218
    rw [if_neg (by decide), if_pos rfl, e1, if_pos (Int32.le_refl _), if_neg (by decide)]
  | succ r ih =>
    intro v hv hu
    have st : ∀ f, L_218 N g (f + 1) 14 (nI k) 1 (nI v) σ = L_218 N g f 14 (nI k) (if P.2 k v = nx v then 1 else 0 : Int32) (nI (v + 1)) σ := fun f => by
      conv => lhs; unfold L_218
      rw [if_neg (by decide), if_pos rfl, e1, if_neg (nle_nI (by omega) (by omega)), if_neg (by decide), mul12, if_pos (aB_nI (by omega) (by omega)), if_pos (aB_nI (by omega) (by omega)), nI_clamp (by omega), nI_clamp (by omega), nI_1, p4 k hk v (by omega), hx v (by omega)]
    by_cases c : P.2 k v = nx v
    · obtain ⟨j, j1, j2⟩ := ih (v + 1) (by omega) (fun u z => by
        by_cases q : u = v
        · rw [q]; exact c
        · exact hu u (by omega))
      refine ⟨j + 1, by omega, ?_⟩
      rcases j2 with ⟨z1, z2⟩ | ⟨z1, z2⟩
      · exact Or.inl ⟨z1, fun f => by rw [← Nat.add_assoc, st, if_pos c, z2]⟩
      · exact Or.inr ⟨z1, fun f => by rw [← Nat.add_assoc, st, if_pos c, z2]⟩
    · refine ⟨2, by omega, Or.inr ⟨smv_f (v := v) (by omega) c, fun f => ?_⟩⟩
      rw [show f + 2 = f + 1 + 1 from rfl, st, if_neg c]
      conv => lhs; unfold L_218
      rw [if_neg (by decide), if_pos rfl]
      split
      · rw [if_pos rfl, nI_1]
      · rw [if_pos rfl, nI_1]
theorem L218o (hV : V ≤ 12) (e1 : gI σ g 12 = nI V) (h : RPt σ V P) (h4 : gN σ 184 = 12) (hx : ∀ v, v < V → gE σ 184 v = nx v) : ∀ (r k : Nat), k + r = P.1 → ∃ j, j ≤ 15 * r ∧ match fsv V P.2 nx r k with
    | some i => i < P.1 ∧ ∀ f, L_218 N g (f + j + 1) 2 (nI k) 0 0 σ = some (nI i, σ)
    | none => ∀ f, L_218 N g (f + j) 2 (nI k) 0 0 σ = L_218 N g f 2 (nI P.1) 0 0 σ := by
  intro r
  induction r with
  | zero =>
    intro k hk
    rw [Nat.add_zero] at hk
    subst hk
    exact ⟨0, Nat.le_refl _, fun f => rfl⟩
  | succ r ih =>
    intro k hk
    have st : ∀ f, L_218 N g (f + 1) 2 (nI k) 0 0 σ = L_218 N g f 14 (nI k) 1 (nI 0) σ := fun f => by
      conv => lhs; unfold L_218
      have := h.2.2.1
      rw [if_pos rfl, h.1, if_neg (nle_nI (by omega) (by omega))]
      rfl
    obtain ⟨j, j1, j2⟩ := L218i (N := N) hV e1 h h4 hx (show k < P.1 by omega) V 0 (by omega) (fun u z => by omega)
    unfold fsv
    rcases j2 with ⟨z1, z2⟩ | ⟨z1, z2⟩
    · rw [if_pos z1]
      exact ⟨j, by omega, by omega, fun f => by rw [show f + j + 1 = f + j + 1 from rfl, st, z2]⟩
    · rw [if_neg z1]
      obtain ⟨i, i1, i2⟩ := ih (k + 1) (by omega)
      refine ⟨i + j + 1, by omega, ?_⟩
      cases hf : fsv V P.2 nx r (k + 1) with
      | some q =>
        rw [hf] at i2
        exact ⟨i2.1, fun f => by rw [show f + (i + j + 1) + 1 = f + i + 1 + j + 1 by omega, st, z2, i2.2]⟩
      | none =>
        rw [hf] at i2
        have i2 : ∀ f, L_218 N g (f + i) 2 (nI (k + 1)) 0 0 σ = L_218 N g f 2 (nI P.1) 0 0 σ := i2
        exact fun f => by rw [show f + (i + j + 1) = f + i + j + 1 by omega, st, z2, i2]
theorem L218w (hV : V ≤ 12) {S : Nat} (hS : S < 512) : ∀ (r v : Nat) (s : st_S), v + r = V → gI s g 12 = nI V → gI s 66 29 = nI S → gN s 184 = 12 → gN s 171 = 6144 → ∃ s', (∀ f, L_218 N g (f + r) 87 (nI v) 0 0 s = L_218 N g f 87 (nI V) 0 0 s') ∧ Fr 0 [] [] [] [171] [] s s' ∧ gN s' = gN s ∧ (∀ u, v ≤ u → u < V → gE s' 171 (12 * S + u) = gE s 184 u) ∧ (∀ i, i < 12 * S + v → gE s' 171 i = gE s 171 i) := by
  intro r
  induction r with
  | zero =>
    intro v s hv _ _ _ _
    rw [Nat.add_zero] at hv
    subst hv
    exact ⟨s, fun f => rfl, Fr.rf s, rfl, fun u h1 h2 => by omega, fun _ _ => rfl⟩
  | succ r ih =>
    intro v s hv h1 h2 h3 h4
    have st : ∀ f, L_218 N g (f + 1) 87 (nI v) 0 0 s = L_218 N g f 87 (nI (v + 1)) 0 0 (st_e s 171 (12 * S + v) (gE s 184 v)) := fun f => by
      conv => lhs; unfold L_218
      rw [if_neg (by decide), if_neg (by decide), h1, if_neg (nle_nI (by omega) (by omega)), if_pos (aB_nI (by omega) (by omega)), h2, mul12, if_pos (aB_nI (by omega) (by omega)), nI_clamp (by omega), nI_clamp (by omega), nI_1]
    obtain ⟨s', a1, a2, a3, a4, a5⟩ := ih (v + 1) (st_e s 171 (12 * S + v) (gE s 184 v)) (by omega) h1 h2 h3 h4
    refine ⟨s', fun f => by rw [← Nat.add_assoc, st, a1], Fr.t0 (Fr.e s _ _ (by simp)) a2, a3, fun u z1 z2 => ?_, fun i z => ?_⟩
    · by_cases c : u = v
      · subst c
        rw [a5 _ (by omega), gE_e, if_pos ⟨rfl, rfl⟩]
      · rw [a4 u (by omega) z2, gE_e, if_neg (by omega)]
    · rw [a5 i (by omega), gE_e, if_neg (by omega)]
/-- the state that a branch goes to -/
theorem F218 (hN : 10000 < N) (hV : V ≤ 12) (e1 : gI σ g 12 = nI V) (hg : g ≠ 66) (h : RPt σ V P) (h4 : gN σ 184 = 12) (hx : ∀ v, v < V → gE σ 184 v = nx v) : match xgo V P nx with
    | none => F_218 N g σ = some (-1, σ)
    | some q => q.1 < 512 ∧ ∃ σ', F_218 N g σ = some (nI q.1, σ') ∧ RPt σ' V q.2 ∧ Fr 0 [(66, 29)] [] [] [171] [] σ σ' ∧ gN σ' = gN σ := by
  obtain ⟨j, j1, j2⟩ := L218o (N := N) hV e1 h h4 hx P.1 0 (by omega)
  obtain ⟨p1, p0, p2, p3, p4⟩ := id h
  unfold xgo F_218
  cases hf : fsv V P.2 nx P.1 0 with
  | some i =>
    rw [hf] at j2
    obtain ⟨i1, i2⟩ := j2
    dsimp only
    refine ⟨by omega, σ, ?_, h, Fr.rf σ, rfl⟩
    have := i2 (N - j - 1)
    rw [show N - j - 1 + j + 1 = N by omega] at this
    exact this
  | none =>
    rw [hf] at j2
    have j2 : ∀ f, L_218 N g (f + j) 2 (nI 0) 0 0 σ = L_218 N g f 2 (nI P.1) 0 0 σ := j2
    have e2 : L_218 N g N 2 0 0 0 σ = L_218 N g (N - j - V - 2 + V + 1 + 1) 2 (nI P.1) 0 0 σ := by
      have := j2 (N - j - V - 2 + V + 1 + 1)
      rw [show N - j - V - 2 + V + 1 + 1 + j = N by omega] at this
      exact this
    rw [e2]
    dsimp only
    by_cases c : P.1 = 512
    · rw [if_pos c]
      show L_218 N g (N - j - V - 2 + V + 1 + 1) 2 (nI P.1) 0 0 σ = _
      unfold L_218
      rw [if_pos rfl, p1, if_pos (Int32.le_refl _), c, if_pos (by decide)]
    · rw [if_neg c]
      dsimp only
      obtain ⟨s, a1, a2, a3, a4, a5⟩ := L218w (N := N) (g := g) hV (S := P.1) (by omega) V 0 σ (by omega) e1 p1 h4 p3
      have gi : gI s g 12 = nI V ∧ gI s 66 29 = nI P.1 := ⟨(a2.1 g 12 (by simp)).trans e1, (a2.1 66 29 (by simp)).trans p1⟩
      refine ⟨by omega, st_i s 66 29 (nI (P.1 + 1)), ?_, ⟨by rw [gI_i, if_pos ⟨rfl, rfl⟩], by show 1 ≤ P.1 + 1; omega, by show P.1 + 1 ≤ 512; omega, by show gN s 171 = _; rw [a3]; exact p3, fun k hk v hv => ?_⟩, Fr.t0 (a2.mo (by simp) (by simp) (by simp) (by simp) (by simp)) (Fr.i _ _ (by simp)), a3⟩
      · conv => lhs; unfold L_218
        rw [if_pos rfl, p1, if_pos (Int32.le_refl _), if_neg (show ¬ nI P.1 = 512 from nik (m := 512) (by omega) (by decide) c)]
        have := a1 (N - j - V - 2 + 1)
        rw [show N - j - V - 2 + 1 + V = N - j - V - 2 + V + 1 by omega] at this
        refine (show L_218 N g (N - j - V - 2 + V + 1) 87 0 0 0 σ = _ from this).trans ?_
        unfold L_218
        rw [if_neg (by decide), if_neg (by decide), gi.1, if_pos (Int32.le_refl _), gi.2, nI_1]
        have : nI (P.1 + 1) - 1 = nI P.1 := by
          have := nI_sub (a := P.1 + 1) (b := 1) (by omega)
          rw [Nat.add_sub_cancel] at this
          exact this
        rw [this]
      · have hk : k < P.1 + 1 := hk
        show gE s 171 (12 * k + v) = upv P.2 P.1 nx k v
        by_cases ck : k = P.1
        · subst ck
          rw [upv_s, a4 v (Nat.zero_le _) hv]
          exact hx v hv
        · rw [upv_o _ _ ck, a5 _ (by omega)]
          exact p4 k (by omega) v hv
end RF
