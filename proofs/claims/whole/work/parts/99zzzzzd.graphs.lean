/-! the graph that the class keeps and the reference's -/
/-- what the class's graph holds -/
def KGr (σ : st_S) (V : Nat) (G : Gsh) : Prop := (gI σ 52 9 = nI V ∧ gI σ 52 10 = nI G.1.1 ∧ G.1.1 ≤ gN σ 55 ∧ ∀ k, k < G.1.1 → ∀ v, v < V → gE σ 54 (12 * k + v) = G.1.2 k v) ∧ ((∀ j, j < G.1.1 → gE σ 55 j = nI (G.2.1 j) ∧ gE σ 56 j = nI (G.2.2.1 j)) ∧ gE σ 56 G.1.1 = nI G.2.2.2.1.1) ∧ KCm σ G.2.2.2.1 G.2.2.2.2.1 ∧ KBr σ G.2.2.2.2
section GRA
variable {σ σ' : st_S} {V : Nat} {G : Gsh} {E : List En}
theorem KGk.gr (h : KGk σ V G.1.1 G) (j : GJ E G.1.1 G) : KGr σ V G := by
  obtain ⟨⟨p1, p2, p3, p4, p5, p6, p7⟩, ⟨s1, s2, s3⟩, hc, hb⟩ := h
  exact ⟨⟨p1, p2, p4.2.2.2.2, p6⟩, ⟨s1, s2 j.2.1⟩, hc, hb⟩
/-- it stays where its cells do -/
theorem KGr.fr (h : KGr σ V G) (eI : ∀ k, 9 ≤ k → k ≤ 12 → gI σ' 52 k = gI σ 52 k) (eA : ∀ a, 54 ≤ a → a ≤ 61 → gN σ' a = gN σ a ∧ gE σ' a = gE σ a) : KGr σ' V G := by
  unfold KGr KCm KBr
  rw [eI 9 (by decide) (by decide), eI 10 (by decide) (by decide), eI 11 (by decide) (by decide), eI 12 (by decide) (by decide), (eA 54 (by decide) (by decide)).2, (eA 55 (by decide) (by decide)).1, (eA 55 (by decide) (by decide)).2, (eA 56 (by decide) (by decide)).2, (eA 57 (by decide) (by decide)).1, (eA 57 (by decide) (by decide)).2, (eA 58 (by decide) (by decide)).2, (eA 59 (by decide) (by decide)).1, (eA 59 (by decide) (by decide)).2, (eA 60 (by decide) (by decide)).2, (eA 61 (by decide) (by decide)).2]
  exact h
/-- both sides hold the same -/
theorem same_g (hl : KLn σ) (xl : XLn σ) (h : KGr σ V G) (r : RGk σ V G.1.1 G) (j : GJ E G.1.1 G) (hV : V ≤ 12) (hR : (gR σ 66 9 = 79 ∧ gI σ 79 12 = nI V) ∨ (gR σ 66 9 = 115 ∧ gI σ 115 12 = nI V)) : R9 σ ∧ Rg σ ∧ Rv σ := by
  obtain ⟨⟨p1, p2, p3, p4⟩, ⟨s1, s2⟩, ⟨c1, c2, c3, c4⟩, b1, b2, b3, b4⟩ := h
  obtain ⟨⟨q1, q2, q3, q4, q5⟩, t1, ⟨u1, u2, u3⟩, w1, w2, w3⟩ := r
  obtain ⟨j1, j2, j3, j4, j5, j6, j7, j8, j9, j10⟩ := j
  obtain ⟨m53, m63, m64, m65, ⟨m54, m56, m55, m55'⟩, ⟨m58, m57, m57'⟩, m60, m61, m59, m59', -⟩ := hl
  obtain ⟨x1, x2, x3, x4, x5, x6, x7, x8, x9, x10, x11, x12⟩ := xl
  obtain ⟨u1a, u1b, u1c, u1d, u1e⟩ := u1
  obtain ⟨u2a, u2b, u2c, u2d, u2e⟩ := u2
  obtain ⟨u3a, u3b, u3c, u3d, u3e⟩ := u3
  have u1b : G.2.2.2.1.1 ≤ gN σ 176 := u1b
  have u2b : G.2.2.2.1.1 ≤ gN σ 178 := u2b
  have u3b : G.2.2.2.1.1 ≤ gN σ 180 := u3b
  have u1d : gN σ 176 ≤ 40000 := u1d
  have u2d : gN σ 178 ≤ 40000 := u2d
  have u3d : gN σ 180 ≤ 40000 := u3d
  refine ⟨⟨G.1.1, p2, j3, p3, by omega, x4, fun k hk => (s1 k hk).1.trans (t1 k hk).1.symm⟩, ⟨G.1.1, G.2.2.2.1.1, G.2.2.2.2.1, fun k => if k < G.1.1 then G.2.2.1 k else G.2.2.2.1.1, fun c => if c < G.2.2.2.1.1 then G.2.2.2.1.2.2 c else G.2.2.2.2.1, p2, j3, by omega, j6, by omega, by omega, x5, x6, fun k hk => ?_, c2, u1b, by omega, u2b, u3b, by omega, u1d, by omega, u2d, u3d, fun c hc => ?_, b3, by omega, by omega, by omega, by omega, by omega, x7, x8, x9, fun b hb => ⟨(b4 b hb).1.trans (w3 b hb).1.symm, by rw [(w3 b hb).2.1]; exact (b4 b hb).2.1, by rw [(w3 b hb).2.2.1]; exact (b4 b hb).2.2.1⟩⟩, ⟨G.1.1, V, p2, j3, p1, hV, by omega, by omega, x3, fun _ => hR, fun k hk v hv => by rw [show k * 12 + v = 12 * k + v by omega, p4 k hk v hv, q5 k hk v hv]⟩⟩
  · obtain ⟨a1, a2⟩ := s1 k hk
    obtain ⟨d1, d2, d3⟩ := t1 k hk
    dsimp only
    rw [if_pos hk]
    by_cases c : k + 1 < G.1.1
    · rw [if_pos c]
      rw [if_neg (by omega)] at d3
      exact ⟨a2, (s1 (k + 1) c).2, d2, d3, j8 k c, (j7 (k + 1) c).2⟩
    · have e : k + 1 = G.1.1 := by omega
      rw [if_neg c]
      rw [if_pos e] at d3
      exact ⟨a2, by rw [e]; exact s2, d2, d3, (j7 k hk).2, Nat.le_refl _⟩
  · obtain ⟨a1, a2⟩ := c3 c hc
    have d1 : gE σ 176 c = nI (G.2.2.2.1.2.1 c) := u1e c hc
    have d2 : gE σ 178 c = nI (G.2.2.2.1.2.2 c) := u2e c hc
    have d3 : gE σ 180 c = nI ((if c + 1 = G.2.2.2.1.1 then G.2.2.2.2.1 else G.2.2.2.1.2.2 (c + 1)) - G.2.2.2.1.2.2 c) := u3e c hc
    dsimp only
    rw [if_pos hc]
    by_cases z : c + 1 < G.2.2.2.1.1
    · rw [if_pos z]
      rw [if_neg (by omega)] at d3
      exact ⟨a1.trans d1.symm, a2, (c3 (c + 1) z).2, d2, d3, j10 c z, j9 (c + 1) z⟩
    · have e : c + 1 = G.2.2.2.1.1 := by omega
      rw [if_neg z]
      rw [if_pos e] at d3
      exact ⟨a1.trans d1.symm, a2, by rw [e]; exact c4 (by omega), d2, d3, j9 c hc, Nat.le_refl _⟩
/-- .. nothing -/
theorem none_g (hl : KLn σ) (xl : XLn σ) (ha : ∀ a, a = 176 ∨ a = 178 ∨ a = 180 → 16 ≤ gN σ a ∧ gN σ a ≤ 40000) (h10 : gI σ 52 10 = 0) {V : Nat} (h9 : gI σ 52 9 = nI V) (hV : V ≤ 12) : R9 σ ∧ Rg σ ∧ Rv σ := by
  obtain ⟨m53, m63, m64, m65, ⟨m54, m56, m55, m55'⟩, ⟨m58, m57, m57'⟩, m60, m61, m59, m59', -⟩ := hl
  obtain ⟨x1, x2, x3, x4, x5, x6, x7, x8, x9, x10, x11, x12⟩ := xl
  have a1 := ha 176 (by omega)
  have a2 := ha 178 (by omega)
  have a3 := ha 180 (by omega)
  exact ⟨⟨0, h10, by omega, by omega, by omega, x4, fun k hk => absurd hk (Nat.not_lt_zero k)⟩, ⟨0, 0, 0, fun _ => 0, fun _ => 0, h10, by omega, by omega, by omega, by omega, by omega, x5, x6, fun k hk => absurd hk (Nat.not_lt_zero k), by omega, by omega, by omega, by omega, by omega, by omega, by omega, by omega, by omega, by omega, fun k hk => absurd hk (Nat.not_lt_zero k), by omega, by omega, by omega, by omega, by omega, by omega, x7, x8, x9, fun k hk => absurd hk (Nat.not_lt_zero k)⟩, ⟨0, V, h10, by omega, h9, hV, by omega, by omega, x3, fun z => absurd z (Nat.lt_irrefl 0), fun k hk => absurd hk (Nat.not_lt_zero k)⟩⟩
end GRA
