/-! the class's code: a node is added (emit) -/
abbrev FE (t : Nat) (σ σ' : st_S) : Prop := Fr 0 [(t + 1, 8)] [] [] [t + 2, t + 3, t + 4, t + 5, t + 6, t + 7, t + 8, t + 9] [] σ σ'
/-- the code's arrays, all of length L, and its size n -/
def Cd (σ : st_S) (t n L : Nat) : Prop := gI σ (t + 1) 8 = nI n ∧ n ≤ L ∧ 64 ≤ L ∧ L ≤ 100000 ∧ ∀ c, c < 8 → gN σ (t + 2 + c) = L
theorem c8 {c : Nat} (h : c < 8) : c = 0 ∨ c = 1 ∨ c = 2 ∨ c = 3 ∨ c = 4 ∨ c = 5 ∨ c = 6 ∨ c = 7 := by omega
theorem in8 {t c : Nat} (h : c < 8) : t + 2 + c ∈ [t + 2, t + 3, t + 4, t + 5, t + 6, t + 7, t + 8, t + 9] := by
  rcases c8 h with rfl | rfl | rfl | rfl | rfl | rfl | rfl | rfl <;> simp
theorem gra8 {t c : Nat} (ht : t = 4 ∨ t = 20) (h : c < 8) : t + 2 + c ∈ gra := by
  rcases ht with rfl | rfl <;> rcases c8 h with rfl | rfl | rfl | rfl | rfl | rfl | rfl | rfl <;> decide
theorem nI_dbl (L : Nat) : 2 * nI L = nI (2 * L) := (Int32.ofNat_mul 2 L).symm
theorem dbl_cl {L : Nat} (h : L ≤ 100000) : (2 * nI L : Int32).toNatClampNeg = 2 * L := by rw [nI_dbl]; exact nI_clamp (by omega)
/-- the first j arrays have been doubled -/
def Gw (σ τ : st_S) (t L j : Nat) : Prop := (∀ c, c < 8 → gN τ (t + 2 + c) = if c < j then 2 * L else L) ∧ (∀ c, c < 8 → ∀ i, i < L → gE τ (t + 2 + c) i = gE σ (t + 2 + c) i) ∧ gC τ = gC σ + j ∧ FE t σ τ ∧ gI τ = gI σ
theorem Gw.step {σ τ : st_S} {t L j : Nat} (ht : t = 4 ∨ t = 20) (h : Gw σ τ t L j) (hj : j < 8) (hL : 64 ≤ L) (hL2 : L ≤ 100000) (hq : gC σ + 200 < vz_M0) : Gw σ (st_gw τ (t + 2 + j) L (2 * L)) t L (j + 1) ∧ gwB τ (t + 2 + j) (2 * nI L) := by
  obtain ⟨h1, h2, h3, h4, h5⟩ := h
  have hn : gN τ (t + 2 + j) = L := by rw [h1 j hj, if_neg (Nat.lt_irrefl j)]
  refine ⟨⟨fun c hc => ?_, fun c hc i hi => ?_, ?_, Fr.t0 h4 (gw_fr hn (by omega) (in8 hj) (gra8 ht hj)), h5⟩, ?_, ?_, ?_, ?_⟩
  · show va_up (gN τ) (t + 2 + j) (2 * L) (t + 2 + c) = _
    by_cases e : c = j
    · subst e
      rw [va_up_self, if_pos (Nat.lt_succ_self c)]
    · rw [va_up_ne _ _ (by omega), h1 c hc]
      by_cases q : c < j
      · rw [if_pos q, if_pos (by omega)]
      · rw [if_neg q, if_neg (by omega)]
  · show va_up (gE τ) (t + 2 + j) (fun z => if z < L then gE τ (t + 2 + j) z else 0) (t + 2 + c) i = _
    by_cases e : c = j
    · subst e
      rw [va_up_self, if_pos hi]
      exact h2 c hc i hi
    · rw [va_up_ne _ _ (by omega)]
      exact h2 c hc i hi
  · show gC τ + 1 = _
    rw [h3]; omega
  · rw [nI_dbl]
    intro q
    have q := (nI_lti (a := 2 * L) (b := 0) (by omega) (by decide)).mp q
    omega
  · rw [dbl_cl hL2, hn]; omega
  · rw [dbl_cl hL2]; omega
  · rw [h3]; omega
/-- what a fresh node holds in column c -/
def nv8 (x1 x2 x3 x4 x5 : Int32) (c : Nat) : Int32 := if c = 0 then x1 else if c = 1 then x2 else if c = 2 then x3 else if c = 3 then x4 else if c = 4 then x5 else if c = 7 then 1 else 0
/-- a node was added behind the n-th -/
def Em (σ σ' : st_S) (t n : Nat) (x1 x2 x3 x4 x5 : Int32) : Prop := ∀ c, c < 8 → ∀ i, i ≤ n → gE σ' (t + 2 + c) i = if i = n then nv8 x1 x2 x3 x4 x5 c else gE σ (t + 2 + c) i
theorem J30 {N t n M : Nat} {τ : st_S} (x1 x2 x3 x4 x5 : Int32) (h0 : gI τ (t + 1) 8 = nI n) (h1 : ∀ c, c < 8 → gN τ (t + 2 + c) = M) (hn : n < M) (hM : M ≤ 200000) : ∃ σ', J_30_125 N t x1 x2 x3 x4 x5 τ = some (nI n, σ') ∧ gI σ' (t + 1) 8 = nI (n + 1) ∧ (∀ c, c < 8 → gN σ' (t + 2 + c) = M) ∧ Em τ σ' t n x1 x2 x3 x4 x5 ∧ FE t τ σ' ∧ gC σ' = gC τ := by
  have a : ∀ c, c < 8 → aB (nI n) (gN τ (t + 2 + c)) := fun c hc => by rw [h1 c hc]; exact aB_nI hn (by omega)
  have a0 : aB (nI n) (gN τ (t + 2)) := a 0 (by decide)
  have a1 : aB (nI n) (gN τ (t + 3)) := a 1 (by decide)
  have a2 : aB (nI n) (gN τ (t + 4)) := a 2 (by decide)
  have a3 : aB (nI n) (gN τ (t + 5)) := a 3 (by decide)
  have a4 : aB (nI n) (gN τ (t + 6)) := a 4 (by decide)
  have a5 : aB (nI n) (gN τ (t + 7)) := a 5 (by decide)
  have a6 : aB (nI n) (gN τ (t + 8)) := a 6 (by decide)
  have a7 : aB (nI n) (gN τ (t + 9)) := a 7 (by decide)
  unfold J_30_125
  rw [h0, if_pos a0, if_pos a1, if_pos a2, if_pos a3, if_pos a4, if_pos a5, if_pos a6, if_pos a7, nI_clamp (by omega)]
  refine ⟨_, rfl, ?_, h1, ?_, ?_, rfl⟩
  · rw [show nI (n + 1) = nI n + 1 from (nI_1 n).symm]
    exact st_i_s _ _ _ _
  · intro c hc i hi
    show st_u (st_u (st_u (st_u (st_u (st_u (st_u (st_u (gE τ) (t + 2) n x1) (t + 3) n x2) (t + 4) n x3) (t + 5) n x4) (t + 6) n x5) (t + 7) n 0) (t + 8) n 0) (t + 9) n 1 (t + 2 + c) i = _
    by_cases e : i = n
    · subst e
      rw [if_pos rfl]
      rcases c8 hc with rfl | rfl | rfl | rfl | rfl | rfl | rfl | rfl <;> simp [st_u, nv8]
    · rw [if_neg e, st_u_k _ _ _ _ e, st_u_k _ _ _ _ e, st_u_k _ _ _ _ e, st_u_k _ _ _ _ e, st_u_k _ _ _ _ e, st_u_k _ _ _ _ e, st_u_k _ _ _ _ e, st_u_k _ _ _ _ e]
  · exact Fr.t0 (Fr.e _ _ _ (by simp)) (Fr.t0 (Fr.e _ _ _ (by simp)) (Fr.t0 (Fr.e _ _ _ (by simp)) (Fr.t0 (Fr.e _ _ _ (by simp)) (Fr.t0 (Fr.e _ _ _ (by simp)) (Fr.t0 (Fr.e _ _ _ (by simp)) (Fr.t0 (Fr.e _ _ _ (by simp)) (Fr.t0 (Fr.e _ _ _ (by simp)) (Fr.i _ _ (by simp)))))))))
theorem F30 {N t n L : Nat} {σ : st_S} (ht : t = 4 ∨ t = 20) (x1 x2 x3 x4 x5 : Int32) (h : Cd σ t n L) (hn : n < 50000) (hq : gC σ + 200 < vz_M0) : ∃ σ' L', F_30 N t x1 x2 x3 x4 x5 σ = some (nI n, σ') ∧ Cd σ' t (n + 1) L' ∧ Em σ σ' t n x1 x2 x3 x4 x5 ∧ FE t σ σ' ∧ L' ≤ max L (2 * n) := by
  obtain ⟨h0, h1, h2, h3, h4⟩ := h
  have e2 : gN σ (t + 2) = L := h4 0 (by decide)
  have e3 : gN σ (t + 3) = L := h4 1 (by decide)
  have e4 : gN σ (t + 4) = L := h4 2 (by decide)
  have e5 : gN σ (t + 5) = L := h4 3 (by decide)
  have e6 : gN σ (t + 6) = L := h4 4 (by decide)
  have e7 : gN σ (t + 7) = L := h4 5 (by decide)
  have e8 : gN σ (t + 8) = L := h4 6 (by decide)
  have e9 : gN σ (t + 9) = L := h4 7 (by decide)
  unfold F_30
  simp only [h0, e2, e3, e4, e5, e6, e7, e8, e9, dbl_cl h3]
  by_cases c : n < L
  · rw [if_pos ((nI_lti (by omega) (by omega)).mpr c)]
    obtain ⟨σ', z1, z2, z3, z4, z5, z6⟩ := J30 (N := N) x1 x2 x3 x4 x5 h0 h4 c (by omega)
    exact ⟨σ', L, z1, ⟨z2, by omega, h2, h3, z3⟩, z4, z5, by omega⟩
  · have hnL : n = L := by omega
    rw [if_neg (fun q => c ((nI_lti (by omega) (by omega)).mp q))]
    have r0 : Gw σ σ t L 0 := ⟨fun c hc => by rw [h4 c hc, if_neg (by omega)], fun _ _ _ _ => rfl, rfl, Fr.rf σ, rfl⟩
    obtain ⟨r1, g1⟩ := r0.step ht (by decide) h2 h3 hq
    obtain ⟨r2, g2⟩ := r1.step ht (by decide) h2 h3 hq
    obtain ⟨r3, g3⟩ := r2.step ht (by decide) h2 h3 hq
    obtain ⟨r4, g4⟩ := r3.step ht (by decide) h2 h3 hq
    obtain ⟨r5, g5⟩ := r4.step ht (by decide) h2 h3 hq
    obtain ⟨r6, g6⟩ := r5.step ht (by decide) h2 h3 hq
    obtain ⟨r7, g7⟩ := r6.step ht (by decide) h2 h3 hq
    obtain ⟨r8, g8⟩ := r7.step ht (by decide) h2 h3 hq
    have g1 : gwB σ (t + 2) (2 * nI L) := g1
    have g2 : gwB (st_gw σ (t + 2) L (2 * L)) (t + 3) (2 * nI L) := g2
    have g3 : gwB (st_gw (st_gw σ (t + 2) L (2 * L)) (t + 3) L (2 * L)) (t + 4) (2 * nI L) := g3
    have g4 : gwB (st_gw (st_gw (st_gw σ (t + 2) L (2 * L)) (t + 3) L (2 * L)) (t + 4) L (2 * L)) (t + 5) (2 * nI L) := g4
    have g5 : gwB (st_gw (st_gw (st_gw (st_gw σ (t + 2) L (2 * L)) (t + 3) L (2 * L)) (t + 4) L (2 * L)) (t + 5) L (2 * L)) (t + 6) (2 * nI L) := g5
    have g6 : gwB (st_gw (st_gw (st_gw (st_gw (st_gw σ (t + 2) L (2 * L)) (t + 3) L (2 * L)) (t + 4) L (2 * L)) (t + 5) L (2 * L)) (t + 6) L (2 * L)) (t + 7) (2 * nI L) := g6
    have g7 : gwB (st_gw (st_gw (st_gw (st_gw (st_gw (st_gw σ (t + 2) L (2 * L)) (t + 3) L (2 * L)) (t + 4) L (2 * L)) (t + 5) L (2 * L)) (t + 6) L (2 * L)) (t + 7) L (2 * L)) (t + 8) (2 * nI L) := g7
    have g8 : gwB (st_gw (st_gw (st_gw (st_gw (st_gw (st_gw (st_gw σ (t + 2) L (2 * L)) (t + 3) L (2 * L)) (t + 4) L (2 * L)) (t + 5) L (2 * L)) (t + 6) L (2 * L)) (t + 7) L (2 * L)) (t + 8) L (2 * L)) (t + 9) (2 * nI L) := g8
    rw [if_pos g1, if_pos g2, if_pos g3, if_pos g4, if_pos g5, if_pos g6, if_pos g7, if_pos g8]
    obtain ⟨k1, k2, k3, k4, k5⟩ := r8
    obtain ⟨σ', z1, z2, z3, z4, z5, z6⟩ := J30 (N := N) (n := n) (M := 2 * L) x1 x2 x3 x4 x5 (by rw [k5]; exact h0) (fun c hc => by rw [k1 c hc, if_pos hc]) (by omega) (by omega)
    refine ⟨σ', 2 * L, z1, ⟨z2, by omega, by omega, by omega, z3⟩, ?_, Fr.t0 k4 z5, by omega⟩
    intro c hc i hi
    rw [z4 c hc i hi]
    by_cases e : i = n
    · rw [if_pos e, if_pos e]
    · rw [if_neg e, if_neg e]
      exact k2 c hc i (by omega)
