/-! the class explores: the sets of a branch -/
/-- what changes while the class explores -/
abbrev FKx (t : Nat) (σ σ' : st_S) : Prop := Fr 0 [(42, 5), (42, 6), (52, 9), (52, 10), (52, 11), (52, 12), (62, 7), (62, 8), (62, 9)] [(42, 7), (42, 8)] [(42, 3), (42, 4), (62, 5), (62, 6)] [43, 44, 45, 53, 54, 55, 56, 57, 58, 59, 60, 61, 63, 64, 65, t + 7, t + 8, t + 9] [] σ σ'
/-- lengths -/
def Col (σ : st_S) : Prop := (gN σ 11 = gN σ 10 ∧ gN σ 12 = gN σ 10 ∧ gN σ 13 = gN σ 10) ∧ gN σ 27 = gN σ 26 ∧ gN σ 28 = gN σ 26 ∧ gN σ 29 = gN σ 26
theorem Col.of {σ σ' : st_S} (h : Col σ) (e : ∀ a, a < 30 → gN σ' a = gN σ a) : Col σ' := by
  unfold Col
  rw [e 10 (by decide), e 11 (by decide), e 12 (by decide), e 13 (by decide), e 26 (by decide), e 27 (by decide), e 28 (by decide), e 29 (by decide)]
  exact h
def KLn (σ : st_S) : Prop := gN σ 53 = 1024 ∧ gN σ 63 = 8 ∧ gN σ 64 = 8 ∧ gN σ 65 = 12 ∧ (gN σ 54 = 12 * gN σ 55 ∧ gN σ 56 = gN σ 55 + 1 ∧ 16 ≤ gN σ 55 ∧ gN σ 55 ≤ 1024) ∧ (gN σ 58 = gN σ 57 + 1 ∧ 16 ≤ gN σ 57 ∧ gN σ 57 ≤ 10000) ∧ gN σ 60 = gN σ 59 ∧ gN σ 61 = gN σ 59 ∧ 16 ≤ gN σ 59 ∧ gN σ 59 ≤ 8192 ∧ Col σ
/-- what holds whatever happens -/
def KB0 (t n : Nat) (l : List Int32) (w : List (Nat × Nat × Nat)) (x : Tx) (X fs : Nat → Nat) (tge : Int32) (hs : Nat → Nat) (σ0 σ : st_S) : Prop := (∃ M, KM l w x X fs n tge hs M ∧ CS σ t n M) ∧ SQ σ t x.1 X fs tge x.2.2.length hs ∧ KLn σ ∧ FKx t σ0 σ
/-- a fault -/
def KFl (t n : Nat) (l : List Int32) (w : List (Nat × Nat × Nat)) (x : Tx) (X fs : Nat → Nat) (tge : Int32) (hs : Nat → Nat) (σ0 : st_S) (e : Nat × Nat) (σ : st_S) : Prop := (5 ≤ e.1 ∧ e.1 ≤ 13) ∧ gI σ 62 8 = nI e.2 ∧ KB0 t n l w x X fs tge hs σ0 σ
/-- in a state -/
def KXs (t n : Nat) (l : List Int32) (w : List (Nat × Nat × Nat)) (x : Tx) (X fs : Nat → Nat) (tge : Int32) (hs : Nat → Nat) (vs : Vl) (σ0 σ : st_S) (M : Nat → Nat → Int32) : Prop := KX t n l w x X fs tge hs vs σ M ∧ KLn σ ∧ FKx t σ0 σ
section KS
variable {N t n : Nat} {l : List Int32} {w : List (Nat × Nat × Nat)} {x : Tx} {X fs hs : Nat → Nat} {tge : Int32} {M M' : Nat → Nat → Int32} {vs nx : Vl} {T : Tr} {kd e : Nat} {σ σ' σ0 : st_S} {I J Rr : List (Nat × Nat)} {A L : List Nat}
theorem FM.kx (f : FM t σ σ') : FKx t σ σ' := f.1.mo (by intro a q; simp only [List.mem_cons, List.not_mem_nil, or_false] at q ⊢; simp [q]) (fun _ q => q) (by simp) (by intro a q; simp only [List.mem_cons, List.not_mem_nil, or_false] at q ⊢; omega) (by simp)
theorem KLn.eq (h : KLn σ) (e : gN σ' = gN σ) : KLn σ' := by unfold KLn Col; rw [e]; exact h
theorem KXs.b0 (h : KXs t n l w x X fs tge hs vs σ0 σ M) : KB0 t n l w x X fs tge hs σ0 σ := ⟨⟨M, h.1.1, h.1.2.1⟩, h.1.2.2.1, h.2.1, h.2.2⟩
theorem KXs.gc (ht : t = 4 ∨ t = 20) (h : KB0 t n l w x X fs tge hs σ0 σ) (hq : gC σ0 + 50000 < vz_M0) : gC σ + 10000 < vz_M0 := by
  obtain ⟨⟨M, h1, h2⟩, h3, ⟨a1, a2, a3, a4, ⟨b1, b2, b3, b4⟩, ⟨c1, c2, c3⟩, d1, d2, d3, d4, -⟩, h5⟩ := h
  obtain ⟨⟨l10, l11, l12, l13, l14, l15, l43, l44, l45⟩, -⟩ := h3
  have q5 := (h2.2.2.1 5 (by decide)).2
  have q6 := (h2.2.2.1 6 (by decide)).2
  have q7 := (h2.2.2.1 7 (by decide)).2
  have q5 : gN σ (t + 7) ≤ 50000 := q5
  have q6 : gN σ (t + 8) ≤ 50000 := q6
  have q7 : gN σ (t + 9) ≤ 50000 := q7
  have := Fr.gcl (k := 11) h5 (C := 50000) (fun a ha => by
    simp only [List.mem_cons, List.not_mem_nil, or_false] at ha
    rcases ha with rfl | rfl | rfl | rfl | rfl | rfl | rfl | rfl | rfl | rfl | rfl | rfl | rfl | rfl | rfl | rfl | rfl | rfl <;> omega) (by rcases ht with rfl | rfl <;> decide)
  omega
/-- where only the graph's cells change -/
theorem KX.fr (ht : t = 4 ∨ t = 20) (h : KX t n l w x X fs tge hs vs σ M) (fr : Fr 0 I J Rr A L σ σ') (hI : ∀ q ∈ I, q.1 = 52 ∨ q.1 = 62) (hA : ∀ a ∈ A, 53 ≤ a ∧ a ≤ 65) : KX t n l w x X fs tge hs vs σ' M := by
  obtain ⟨km, ⟨c1, c2, c3, c4⟩, ⟨⟨l10, l11, l12, l13, l14, l15, l43, l44, l45⟩, ⟨b1, b2, b3, b4, b5⟩, c, s5, s6, s7⟩, mt, h43, st⟩ := h
  have gi : ∀ a k, a ≠ 52 → a ≠ 62 → gI σ' a k = gI σ a k := fun a k z1 z2 => fr.1 a k (fun q => by have := hI _ q; dsimp only at this; omega)
  have ga : ∀ a, a < 53 → gN σ' a = gN σ a ∧ gE σ' a = gE σ a := fun a z => fr.2.2.2.1 a (fun q => by have := hA _ q; omega)
  refine ⟨km, ⟨(gi _ _ (by omega) (by omega)).trans c1, c2, fun c hc => by rw [(ga _ (by omega)).1]; exact c3 c hc, fun c hc i hi => by rw [(ga _ (by omega)).2]; exact c4 c hc i hi⟩, ?_, ?_, ?_, ?_⟩
  · unfold SQ LN
    rw [gi t 7 (by omega) (by omega), gi t 8 (by omega) (by omega), gi t 9 (by omega) (by omega), gi t 10 (by omega) (by omega), gi t 11 (by omega) (by omega), (ga (t + 10) (by omega)).1, (ga (t + 11) (by omega)).1, (ga (t + 12) (by omega)).1, (ga (t + 13) (by omega)).1, (ga (t + 14) (by omega)).1, (ga (t + 15) (by omega)).1, (ga 43 (by omega)).1, (ga 44 (by omega)).1, (ga 45 (by omega)).1, (ga (t + 10) (by omega)).2, (ga (t + 11) (by omega)).2, (ga (t + 12) (by omega)).2, (ga (t + 13) (by omega)).2, (ga (t + 14) (by omega)).2, (ga (t + 15) (by omega)).2]
    exact ⟨⟨l10, l11, l12, l13, l14, l15, l43, l44, l45⟩, ⟨b1, b2, b3, b4, b5⟩, c, s5, s6, s7⟩
  · intro j hj z1 z2
    rw [(ga 44 (by omega)).2, gi 42 5 (by omega) (by omega)] at z2
    exact mt j hj z1 z2
  · rw [(ga 43 (by omega)).2]; exact h43
  · unfold Stpk
    rw [(ga 44 (by omega)).2, gi 42 5 (by omega) (by omega)]
    exact st
/-- a rule is worked out -/
theorem ks_ev (G : KGv N t n l w x) (hv : Vv x.1 vs) (h : KXs t n l w x X fs tge hs vs σ0 σ M) (hR : RuK l w x.1 X fs n M kd T e) (hk : kd ≠ 0) : match exv l w x.1 vs T with
    | .inl er => ∃ σ', F_70 N t (nI e) σ = some (nI er.1, σ') ∧ KFl t n l w x X fs tge hs σ0 er (st_i σ' 62 8 (gI σ' 42 6)) ∧ ¬ nI er.1 = 0
    | .inr v => okv kd v ∧ ∃ σ' M', F_70 N t (nI e) σ = some (0, σ') ∧ KXs t n l w x X fs tge hs vs σ0 σ' M' ∧ Va M' (e - 1) v ∧ Sta M M' ∧ FM t σ σ' := by
  have ht := G.1
  have K := kx_ev G hv h.1 hR hk
  cases hev : exv l w x.1 vs T with
  | inl er =>
    rw [hev] at K
    obtain ⟨b, s, M1, k1, k2, k3, k4, k5, k6⟩ := K
    have fr : Fr 0 [(62, 8)] [] [] [] [] s (st_i s 62 8 (gI s 42 6)) := Fr.i _ _ (by simp)
    obtain ⟨c1, c2, c3, c4⟩ := k4
    refine ⟨s, k1, ⟨by omega, by rw [gI_i, if_pos ⟨rfl, rfl⟩]; exact k2, ⟨M1, k3, ⟨(fr.1 _ _ (by simp only [List.mem_cons, List.not_mem_nil, or_false, Prod.mk.injEq]; omega)).trans c1, c2, c3, c4⟩⟩, ?_, (h.2.1.eq k6.2.1).eq rfl, Fr.t0 h.2.2 (Fr.t0 (FM.kx k6) (fr.mo (by simp) (by simp) (by simp) (by simp) (by simp)))⟩, nik (m := 0) (by omega) (by decide) (by omega)⟩
    unfold SQ at k5 ⊢
    rw [fr.1 t 7 (by simp only [List.mem_cons, List.not_mem_nil, or_false, Prod.mk.injEq]; omega), fr.1 t 8 (by simp only [List.mem_cons, List.not_mem_nil, or_false, Prod.mk.injEq]; omega), fr.1 t 9 (by simp only [List.mem_cons, List.not_mem_nil, or_false, Prod.mk.injEq]; omega), fr.1 t 10 (by simp only [List.mem_cons, List.not_mem_nil, or_false, Prod.mk.injEq]; omega), fr.1 t 11 (by simp only [List.mem_cons, List.not_mem_nil, or_false, Prod.mk.injEq]; omega)]
    exact k5
  | inr v =>
    rw [hev] at K
    obtain ⟨ok, s, M1, k1, k2, k3, k4, k5⟩ := K
    exact ⟨ok, s, M1, k1, ⟨k2, h.2.1.eq k5.2.1, Fr.t0 h.2.2 (FM.kx k5)⟩, k3, k4, k5⟩
/-- a fault of the class's own -/
theorem KFl.st (ht : t = 4 ∨ t = 20) (h : KXs t n l w x X fs tge hs vs σ0 σ M) {f p : Nat} (hf : 5 ≤ f ∧ f ≤ 13) : F_116 N (nI f) (nI p) σ = some (nI f, st_i σ 62 8 (nI p)) ∧ KFl t n l w x X fs tge hs σ0 (f, p) (st_i σ 62 8 (nI p)) := by
  have fr : Fr 0 [(62, 8)] [] [] [] [] σ (st_i σ 62 8 (nI p)) := Fr.i _ _ (by simp)
  have k := h.1.fr ht fr (by simp) (by simp)
  exact ⟨rfl, hf, by rw [gI_i, if_pos ⟨rfl, rfl⟩], ⟨M, k.1, k.2.1⟩, k.2.2.1, h.2.1.eq rfl, Fr.t0 h.2.2 (fr.mo (by simp) (by simp) (by simp) (by simp) (by simp))⟩
theorem c32 {v : Int64} (h : v.toInt.natAbs < 1000000000) (lo : Int32) : (v.toInt32 < lo ↔ v < lo.toInt64) ∧ (v.toInt32 ≤ lo ↔ v ≤ lo.toInt64) := by
  have e := toL h
  constructor
  · rw [Int32.lt_iff_toInt_lt, Int64.lt_iff_toInt_lt, Int32.toInt_toInt64]
    rw [← Int32.toInt_toInt64, e]
  · rw [Int32.le_iff_toInt_le, Int64.le_iff_toInt_le, Int32.toInt_toInt64]
    rw [← Int32.toInt_toInt64 (x := v.toInt32), e]
end KS
