/-! the class's parser: nodes are made of what waits (build) -/
/-- the state stands in the store, and little else changed since σ0 -/
def SX (σ0 σ : st_S) (t : Nat) (X : Xs) : Prop := FP t σ0 σ ∧ ∃ L, L ≤ 50000 ∧ SI σ t L X
theorem SX.gc {σ0 σ : st_S} {t : Nat} {X : Xs} (h : SX σ0 σ t X) (hq : gC σ0 + 200000 < vz_M0) : gC σ + 200 < vz_M0 := by
  obtain ⟨f, L, hL, h⟩ := h
  obtain ⟨h1, h2, h3, h4, h5, h6, h7⟩ := h
  have := f.gc (C := 50000) (fun a ha => by
    have w := fun c hc => h4 c hc
    have v := fun c hc => h6.2.2.2.2 c hc
    have w0 := w 0 (by decide)
    have w1 := w 1 (by decide)
    have w2 := w 2 (by decide)
    have w3 := w 3 (by decide)
    have w4 := w 4 (by decide)
    have v0 := v 0 (by decide)
    have v1 := v 1 (by decide)
    have v2 := v 2 (by decide)
    have v3 := v 3 (by decide)
    have v4 := v 4 (by decide)
    have v5 := v 5 (by decide)
    have v6 := v 6 (by decide)
    have v7 := v 7 (by decide)
    simp only [List.mem_cons, List.not_mem_nil, or_false] at ha
    rcases ha with rfl | rfl | rfl | rfl | rfl | rfl | rfl | rfl | rfl | rfl | rfl | rfl | rfl
    · exact Nat.le_trans (Nat.le_of_eq w0) (by decide)
    · exact Nat.le_trans (Nat.le_of_eq w1) (by decide)
    · exact Nat.le_trans (Nat.le_of_eq w2) (by decide)
    · exact Nat.le_trans (Nat.le_of_eq w3) (by decide)
    · exact Nat.le_trans (Nat.le_of_eq w4) (by decide)
    · exact Nat.le_trans (Nat.le_of_eq v0) hL
    · exact Nat.le_trans (Nat.le_of_eq v1) hL
    · exact Nat.le_trans (Nat.le_of_eq v2) hL
    · exact Nat.le_trans (Nat.le_of_eq v3) hL
    · exact Nat.le_trans (Nat.le_of_eq v4) hL
    · exact Nat.le_trans (Nat.le_of_eq v5) hL
    · exact Nat.le_trans (Nat.le_of_eq v6) hL
    · exact Nat.le_trans (Nat.le_of_eq v7) hL)
  omega
/-- a node is added -/
theorem E30' {N t : Nat} {σ0 σ : st_S} {X : Xs} (ht : t = 4 ∨ t = 20) (hq : gC σ0 + 200000 < vz_M0) (x1 x2 x3 x4 x5 : Int32) (h : SX σ0 σ t X) (hn : X.2.2.1 < 25000) : ∃ σ', F_30 N t x1 x2 x3 x4 x5 σ = some (nI X.2.2.1, σ') ∧ SX σ0 σ' t (xem x1 x2 x3 x4 x5 X) ∧ FE t σ σ' := by
  have hg := h.gc hq
  obtain ⟨f, L, hL, h⟩ := h
  obtain ⟨σ', L', e1, e2, e3, e4⟩ := E30 (N := N) ht x1 x2 x3 x4 x5 h (by omega) hg
  exact ⟨σ', e1, ⟨Fr.t0 f e3.fp, L', by omega, e2⟩, e3⟩
theorem SX.i {σ0 σ : st_S} {t k : Nat} {p : Nat → Int32} {Y : List (Nat → Int32) × Nat × (Nat → Nat → Int32)} (ht : t = 4 ∨ t = 20) (h : SX σ0 σ t (p, Y)) (hk : 8 ≤ k) (hk2 : k ≤ 16) (v : Int32) : SX σ0 (st_i σ 36 k v) t (up p k v, Y) := by
  obtain ⟨f, L, hL, h⟩ := h
  refine ⟨Fr.t0 f (Fr.i _ _ ?_), L, hL, h.i ht (by omega) v⟩
  have : k = 8 ∨ k = 9 ∨ k = 10 ∨ k = 11 ∨ k = 12 ∨ k = 13 ∨ k = 14 ∨ k = 15 ∨ k = 16 := by omega
  rcases this with rfl | rfl | rfl | rfl | rfl | rfl | rfl | rfl | rfl <;> simp
theorem SX.n {σ0 σ : st_S} {t i c : Nat} {X : Xs} (ht : t = 4 ∨ t = 20) (h : SX σ0 σ t X) (hc : c < 8) (v : Int32) : SX σ0 (st_e σ (t + 2 + c) i v) t (X.1, X.2.1, X.2.2.1, pat X.2.2.2 i c v) := by
  obtain ⟨f, L, hL, h⟩ := h
  refine ⟨Fr.t0 f (Fr.e _ _ _ ?_), L, hL, h.n ht hc v⟩
  simp only [List.mem_cons, List.not_mem_nil, or_false]
  omega
/-- what waits on top is taken -/
theorem SX.pop {σ0 σ : st_S} {t : Nat} {p e : Nat → Int32} {W : List (Nat → Int32)} {Z : Nat × (Nat → Nat → Int32)} (ht : t = 4 ∨ t = 20) (h : SX σ0 σ t (p, e :: W, Z)) : SX σ0 (st_i σ 36 6 (nI W.length)) t (p, W, Z) := by
  obtain ⟨f, L, hL, h⟩ := h
  obtain ⟨h1, h2, h3, h4, h5, h6, h7⟩ := h
  have h3 : W.length + 1 ≤ 256 := h3
  refine ⟨Fr.t0 f (Fr.i _ _ (by simp)), L, hL, fun k a b => ?_, ?_, by show W.length ≤ 256; omega, h4, Wa.fr (σ := σ) (fun _ _ _ _ => rfl) h5.2, ⟨?_, h6.2⟩, h7⟩
  · rw [gI_i, if_neg (by omega)]; exact h1 k a b
  · rw [gI_i, if_pos ⟨rfl, rfl⟩]
  · rw [gI_i, if_neg (by omega)]; exact h6.1
def bnd (e p : Nat → Int32) : Nat → Int32 := if e 0 = 16 then nv8 (e 0) (e 1) (p 13) (-1) (-1) else if e 0 = 9 then nv8 (e 0) (e 1) (p 13) (-1) (-1) else if e 0 = 19 then nv8 (e 0) (e 1) (e 2) (e 3) (p 13) else nv8 (e 0) (e 1) (e 2) (p 13) (-1)
def bpp (e p : Nat → Int32) (n : Nat) : Nat → Int32 := if e 0 = 16 then up (up p 13 (nI n)) 12 (p 12 - 1) else if e 0 = 9 then up (up p 13 (nI n)) 12 (p 12 - 1) else if e 0 = 19 then up (up p 13 (nI n)) 12 (p 12 - 1) else up p 13 (nI n)
def bMM (e p : Nat → Int32) (n : Nat) (M : Nat → Nat → Int32) : Nat → Nat → Int32 := if e 4 < 0 then ndd M n (bnd e p) else pat (ndd M n (bnd e p)) (e 4).toNatClampNeg 4 (nI n)
/-- nodes are made of what waits, as long as it holds so strongly -/
def xb (h : Int32) : List (Nat → Int32) → (Nat → Int32) → Nat → (Nat → Nat → Int32) → Xs
  | [], p, n, M => (p, [], n, M)
  | e :: W, p, n, M => if hI (e 0) < h then (p, e :: W, n, M) else xb h W (bpp e p n) (n + 1) (bMM e p n M)
/-- a jump is none, or one of the nodes -/
def jok (e : Nat → Int32) (n : Nat) : Prop := e 4 < 0 ∨ ∃ j, j < n ∧ e 4 = nI j
theorem b_tail {t : Nat} {σ0 σ1 m : st_S} {p' e : Nat → Int32} {n : Nat} {W : List (Nat → Int32)} {M1 : Nat → Nat → Int32} (ht : t = 4 ∨ t = 20) (h6 : gI σ1 36 6 = nI W.length) (hW : W.length < 256) (h41 : gN σ1 41 = 256) (he : gE σ1 41 W.length = e 4) (hN : n + 1 ≤ gN σ1 (t + 6)) (hN2 : gN σ1 (t + 6) ≤ 50000) (hj : jok e n) (hm : SX σ0 m t (p', W, n + 1, M1)) : ∃ σ', SX σ0 σ' t (p', W, n + 1, if e 4 < 0 then M1 else pat M1 (e 4).toNatClampNeg 4 (nI n)) ∧ ∀ G : st_S → Option st_S, (if aB (gI σ1 36 6) (gN σ1 41) then (if gE σ1 41 (gI σ1 36 6).toNatClampNeg < 0 then G m else if aB (gE σ1 41 (gI σ1 36 6).toNatClampNeg) (gN σ1 (t + 6)) then G (st_e m (t + 6) (gE σ1 41 (gI σ1 36 6).toNatClampNeg).toNatClampNeg (nI n)) else none) else none) = G σ' := by
  have a1 : aB (nI W.length) (gN σ1 41) := by rw [h41]; exact aB_nI hW (by decide)
  have a2 : (nI W.length).toNatClampNeg = W.length := nI_clamp (by omega)
  by_cases c : e 4 < 0
  · rw [if_pos c]
    refine ⟨m, hm, fun G => ?_⟩
    rw [h6, if_pos a1, a2, he, if_pos c]
  · rw [if_neg c]
    rcases hj with q | ⟨j, j1, j2⟩
    · exact absurd q c
    · have a3 : aB (e 4) (gN σ1 (t + 6)) := by rw [j2]; exact aB_nI (by omega) (by omega)
      refine ⟨_, hm.n ht (c := 4) (i := (e 4).toNatClampNeg) (by decide) (nI n), fun G => ?_⟩
      rw [h6, if_pos a1, a2, he, if_neg c, if_pos a3]
theorem b_turn {N t n i : Nat} {σ0 σ : st_S} {p e : Nat → Int32} {h : Int32} {W : List (Nat → Int32)} {M : Nat → Nat → Int32} (ht : t = 4 ∨ t = 20) (hq : gC σ0 + 200000 < vz_M0) (hx : SX σ0 σ t (p, e :: W, n, M)) (hn : n < 25000) (hj : jok e n) (hi : i < 256) (hh : ¬ hI (e 0) < h) : ∃ σ', SX σ0 σ' t (bpp e p n, W, n + 1, bMM e p n M) ∧ ∀ k, L_28 N t (k + 1) h (nI i) σ = L_28 N t k h (nI (i + 1)) σ' := by
  obtain ⟨f, L, hL, hs⟩ := hx
  have e29 := F29 (N := N) hs
  have e29 : F_29 N σ = some (hI (e 0), σ) := e29
  obtain ⟨a1, a2, a3, a4⟩ := top_a hs
  have b0 : aB (nI W.length) (gN σ 37) := a2 0 (by decide)
  have b1 : aB (nI W.length) (gN σ 38) := a2 1 (by decide)
  have b2 : aB (nI W.length) (gN σ 39) := a2 2 (by decide)
  have b3 : aB (nI W.length) (gN σ 40) := a2 3 (by decide)
  have g0 : gE σ 37 W.length = e 0 := a4 0 (by decide)
  have g1 : gE σ 38 W.length = e 1 := a4 1 (by decide)
  have g2 : gE σ 39 W.length = e 2 := a4 2 (by decide)
  have g3 : gE σ 40 W.length = e 3 := a4 3 (by decide)
  have g4 : gE σ 41 W.length = e 4 := a4 4 (by decide)
  have g13 : gI σ 36 13 = p 13 := hs.1 13 (by decide) (by decide)
  have hW : W.length < 256 := hs.2.2.1
  have hne : ¬ gI σ 36 6 ≤ 0 := by
    have h2 : gI σ 36 6 = nI (W.length + 1) := hs.2.1
    rw [h2]
    intro q
    have := (nI_lei (a := W.length + 1) (b := 0) (by omega) (by decide)).mp q
    omega
  have hi' : ¬ 256 ≤ nI i := fun q => by
    have := (nI_lei (a := 256) (b := i) (by decide) (by omega)).mp q
    omega
  have hp : SX σ0 (st_i σ 36 6 (nI W.length)) t (p, W, n, M) := SX.pop ht ⟨f, L, hL, hs⟩
  have emit : ∀ x1 x2 x3 x4 x5, ∃ σ1, F_30 N t x1 x2 x3 x4 x5 (st_i σ 36 6 (nI W.length)) = some (nI n, σ1) ∧ SX σ0 σ1 t (p, W, n + 1, ndd M n (nv8 x1 x2 x3 x4 x5)) ∧ gI σ1 36 6 = nI W.length ∧ gN σ1 41 = 256 ∧ gE σ1 41 W.length = e 4 ∧ n + 1 ≤ gN σ1 (t + 6) ∧ gN σ1 (t + 6) ≤ 50000 ∧ gI σ1 36 12 = p 12 := by
    intro x1 x2 x3 x4 x5
    obtain ⟨σ1, r1, r2, r3⟩ := E30' (N := N) ht hq x1 x2 x3 x4 x5 hp hn
    obtain ⟨f1, L1, hL1, s1⟩ := r2
    have n6 : gN σ1 (t + 6) = L1 := s1.2.2.2.2.2.1.2.2.2.2 4 (by decide)
    have n7 : n + 1 ≤ L1 := s1.2.2.2.2.2.1.2.1
    refine ⟨σ1, r1, ⟨f1, L1, hL1, s1⟩, s1.2.1, s1.2.2.2.1 4 (by decide), ?_, by omega, by omega, s1.1 12 (by decide) (by decide)⟩
    rw [(r3.2.2.2.1 41 (ine (c := 4) ht (by decide))).2]
    exact g4
  have head : ∀ k, L_28 N t (k + 1) h (nI i) σ = if e 0 = 16 then
              (F_30 N t (e 0) (e 1) (p 13) (-1) (-1) (st_i σ 36 6 (nI W.length))).bind fun p_8 =>
              if aB (gI p_8.2 36 6) (gN p_8.2 41) then
              if (gE (p_8.2) 41 ((gI p_8.2 36 6) : Int32).toNatClampNeg) < 0 then
                L_28 N t k h (nI i + 1) (st_i (st_i (p_8.2) 36 13 p_8.1) 36 12 ((gI p_8.2 36 12) - 1))
              else
                if aB (gE (p_8.2) 41 ((gI p_8.2 36 6) : Int32).toNatClampNeg) (gN p_8.2 (t + 6)) then
                L_28 N t k h (nI i + 1) (st_e (st_i (st_i (p_8.2) 36 13 p_8.1) 36 12 ((gI p_8.2 36 12) - 1)) (t + 6) (((gE (p_8.2) 41 ((gI p_8.2 36 6) : Int32).toNatClampNeg) : Int32).toNatClampNeg) p_8.1)
                else none
              else none
            else
              if e 0 = 9 then
                (F_30 N t (e 0) (e 1) (p 13) (-1) (-1) (st_i σ 36 6 (nI W.length))).bind fun p_13 =>
                if aB (gI p_13.2 36 6) (gN p_13.2 41) then
                if (gE (p_13.2) 41 ((gI p_13.2 36 6) : Int32).toNatClampNeg) < 0 then
                  L_28 N t k h (nI i + 1) (st_i (st_i (p_13.2) 36 13 p_13.1) 36 12 ((gI p_13.2 36 12) - 1))
                else
                  if aB (gE (p_13.2) 41 ((gI p_13.2 36 6) : Int32).toNatClampNeg) (gN p_13.2 (t + 6)) then
                  L_28 N t k h (nI i + 1) (st_e (st_i (st_i (p_13.2) 36 13 p_13.1) 36 12 ((gI p_13.2 36 12) - 1)) (t + 6) (((gE (p_13.2) 41 ((gI p_13.2 36 6) : Int32).toNatClampNeg) : Int32).toNatClampNeg) p_13.1)
                  else none
                else none
              else
                if e 0 = 19 then
                  (F_30 N t (e 0) (e 1) (e 2) (e 3) (p 13) (st_i σ 36 6 (nI W.length))).bind fun p_20 =>
                  if aB (gI p_20.2 36 6) (gN p_20.2 41) then
                  if (gE (p_20.2) 41 ((gI p_20.2 36 6) : Int32).toNatClampNeg) < 0 then
                    L_28 N t k h (nI i + 1) (st_i (st_i (p_20.2) 36 13 p_20.1) 36 12 ((gI p_20.2 36 12) - 1))
                  else
                    if aB (gE (p_20.2) 41 ((gI p_20.2 36 6) : Int32).toNatClampNeg) (gN p_20.2 (t + 6)) then
                    L_28 N t k h (nI i + 1) (st_e (st_i (st_i (p_20.2) 36 13 p_20.1) 36 12 ((gI p_20.2 36 12) - 1)) (t + 6) (((gE (p_20.2) 41 ((gI p_20.2 36 6) : Int32).toNatClampNeg) : Int32).toNatClampNeg) p_20.1)
                    else none
                  else none
                else
                  (F_30 N t (e 0) (e 1) (e 2) (p 13) (-1) (st_i σ 36 6 (nI W.length))).bind fun p_25 =>
                  if aB (gI p_25.2 36 6) (gN p_25.2 41) then
                  if (gE (p_25.2) 41 ((gI p_25.2 36 6) : Int32).toNatClampNeg) < 0 then
                    L_28 N t k h (nI i + 1) (st_i (p_25.2) 36 13 p_25.1)
                  else
                    if aB (gE (p_25.2) 41 ((gI p_25.2 36 6) : Int32).toNatClampNeg) (gN p_25.2 (t + 6)) then
                    L_28 N t k h (nI i + 1) (st_e (st_i (p_25.2) 36 13 p_25.1) (t + 6) (((gE (p_25.2) 41 ((gI p_25.2 36 6) : Int32).toNatClampNeg) : Int32).toNatClampNeg) p_25.1)
                    else none
                  else none := by
    intro k
    conv => lhs; unfold L_28
    rw [if_neg hi', if_neg hne, e29, ob_some]
    dsimp only
    rw [if_neg hh]
    simp only [a1, if_pos b0, if_pos b1, a3, g0, g1, g2, g3, g13, if_pos b2, if_pos b3]
  have i1 : nI i + 1 = nI (i + 1) := nI_1 i
  have dn : ∀ {σ1 : st_S} {Mx : Nat → Nat → Int32}, SX σ0 σ1 t (p, W, n + 1, Mx) → gI σ1 36 12 = p 12 → SX σ0 (st_i (st_i σ1 36 13 (nI n)) 36 12 (gI σ1 36 12 - 1)) t (up (up p 13 (nI n)) 12 (p 12 - 1), W, n + 1, Mx) := by
    intro σ1 Mx hh h12
    rw [h12]
    exact (hh.i ht (by decide) (by decide) _).i ht (by decide) (by decide) _
  by_cases q1 : e 0 = 16
  · obtain ⟨σ1, r1, r2, r3, r4, r5, r6, r7, r8⟩ := emit (e 0) (e 1) (p 13) (-1) (-1)
    have hm := dn r2 r8
    have en : bnd e p = nv8 (e 0) (e 1) (p 13) (-1) (-1) := if_pos q1
    have ep : bpp e p n = up (up p 13 (nI n)) 12 (p 12 - 1) := if_pos q1
    obtain ⟨σ', z1, z2⟩ := b_tail ht r3 hW r4 r5 r6 r7 hj hm
    refine ⟨σ', ?_, fun k => ?_⟩
    · unfold bMM
      rw [ep, en]
      exact z1
    · rw [head, if_pos q1, r1, ob_some, i1]
      exact z2 fun s => L_28 N t k h (nI (i + 1)) s
  by_cases q2 : e 0 = 9
  · obtain ⟨σ1, r1, r2, r3, r4, r5, r6, r7, r8⟩ := emit (e 0) (e 1) (p 13) (-1) (-1)
    have hm := dn r2 r8
    have en : bnd e p = nv8 (e 0) (e 1) (p 13) (-1) (-1) := (if_neg q1).trans (if_pos q2)
    have ep : bpp e p n = up (up p 13 (nI n)) 12 (p 12 - 1) := (if_neg q1).trans (if_pos q2)
    obtain ⟨σ', z1, z2⟩ := b_tail ht r3 hW r4 r5 r6 r7 hj hm
    refine ⟨σ', ?_, fun k => ?_⟩
    · unfold bMM
      rw [ep, en]
      exact z1
    · rw [head, if_neg q1, if_pos q2, r1, ob_some, i1]
      exact z2 fun s => L_28 N t k h (nI (i + 1)) s
  by_cases q3 : e 0 = 19
  · obtain ⟨σ1, r1, r2, r3, r4, r5, r6, r7, r8⟩ := emit (e 0) (e 1) (e 2) (e 3) (p 13)
    have hm := dn r2 r8
    have en : bnd e p = nv8 (e 0) (e 1) (e 2) (e 3) (p 13) := (if_neg q1).trans ((if_neg q2).trans (if_pos q3))
    have ep : bpp e p n = up (up p 13 (nI n)) 12 (p 12 - 1) := (if_neg q1).trans ((if_neg q2).trans (if_pos q3))
    obtain ⟨σ', z1, z2⟩ := b_tail ht r3 hW r4 r5 r6 r7 hj hm
    refine ⟨σ', ?_, fun k => ?_⟩
    · unfold bMM
      rw [ep, en]
      exact z1
    · rw [head, if_neg q1, if_neg q2, if_pos q3, r1, ob_some, i1]
      exact z2 fun s => L_28 N t k h (nI (i + 1)) s
  · obtain ⟨σ1, r1, r2, r3, r4, r5, r6, r7, r8⟩ := emit (e 0) (e 1) (e 2) (p 13) (-1)
    have hm := r2.i ht (k := 13) (by decide) (by decide) (nI n)
    have en : bnd e p = nv8 (e 0) (e 1) (e 2) (p 13) (-1) := (if_neg q1).trans ((if_neg q2).trans (if_neg q3))
    have ep : bpp e p n = up p 13 (nI n) := (if_neg q1).trans ((if_neg q2).trans (if_neg q3))
    obtain ⟨σ', z1, z2⟩ := b_tail ht r3 hW r4 r5 r6 r7 hj hm
    refine ⟨σ', ?_, fun k => ?_⟩
    · unfold bMM
      rw [ep, en]
      exact z1
    · rw [head, if_neg q1, if_neg q2, if_neg q3, r1, ob_some, i1]
      exact z2 fun s => L_28 N t k h (nI (i + 1)) s
theorem L28 {N t : Nat} {σ0 : st_S} {h : Int32} (ht : t = 4 ∨ t = 20) (hq : gC σ0 + 200000 < vz_M0) : ∀ (W : List (Nat → Int32)) (p : Nat → Int32) (n : Nat) (M : Nat → Nat → Int32) (σ : st_S) (i k : Nat), SX σ0 σ t (p, W, n, M) → n + W.length < 25000 → (∀ e ∈ W, jok e n) → i + W.length ≤ 256 → W.length + 1 ≤ k → ∃ σ', L_28 N t k h (nI i) σ = some σ' ∧ SX σ0 σ' t (xb h W p n M) := by
  intro W
  induction W with
  | nil =>
    intro p n M σ i k hx hn hj hi hk
    obtain ⟨k, rfl⟩ : ∃ k', k = k' + 1 := ⟨k - 1, by omega⟩
    refine ⟨σ, ?_, hx⟩
    obtain ⟨f, L, hL, hs⟩ := hx
    have h2 : gI σ 36 6 = 0 := hs.2.1
    unfold L_28
    by_cases c : (256 : Int32) ≤ nI i
    · rw [if_pos c]
    · rw [if_neg c, h2, if_pos (by decide)]
  | cons e W ih =>
    intro p n M σ i k hx hn hj hi hk
    have hi : i + (W.length + 1) ≤ 256 := hi
    have hk : W.length + 1 + 1 ≤ k := hk
    have hn : n + (W.length + 1) < 25000 := hn
    obtain ⟨k, rfl⟩ : ∃ k', k = k' + 1 := ⟨k - 1, by omega⟩
    have ex : xb h (e :: W) p n M = if hI (e 0) < h then (p, e :: W, n, M) else xb h W (bpp e p n) (n + 1) (bMM e p n M) := rfl
    rw [ex]
    by_cases c : hI (e 0) < h
    · rw [if_pos c]
      refine ⟨σ, ?_, hx⟩
      obtain ⟨f, L, hL, hs⟩ := hx
      have e29 : F_29 N σ = some (hI (e 0), σ) := F29 (N := N) hs
      have hne : ¬ gI σ 36 6 ≤ 0 := by
        have h2 : gI σ 36 6 = nI (W.length + 1) := hs.2.1
        rw [h2]
        intro q
        have := (nI_lei (a := W.length + 1) (b := 0) (by omega) (by decide)).mp q
        omega
      have hi' : ¬ 256 ≤ nI i := fun q => by
        have := (nI_lei (a := 256) (b := i) (by decide) (by omega)).mp q
        omega
      unfold L_28
      rw [if_neg hi', if_neg hne, e29, ob_some]
      dsimp only
      rw [if_pos c]
    · rw [if_neg c]
      obtain ⟨σ1, z1, z2⟩ := b_turn (N := N) (i := i) ht hq hx (by omega) (hj e List.mem_cons_self) (by omega) c
      obtain ⟨σ', y1, y2⟩ := ih _ _ _ σ1 (i + 1) k z1 (by omega) (fun e' he => by
        rcases hj e' (List.mem_cons_of_mem _ he) with q | ⟨j, j1, j2⟩
        · exact Or.inl q
        · exact Or.inr ⟨j, by omega, j2⟩) (by omega) (by omega)
      exact ⟨σ', by rw [z2, y1], y2⟩
theorem F28 {N t : Nat} {σ0 σ : st_S} {X : Xs} (hN : 1000 < N) (h : Int32) (ht : t = 4 ∨ t = 20) (hq : gC σ0 + 200000 < vz_M0) (hx : SX σ0 σ t X) (hn : X.2.2.1 + X.2.1.length < 25000) (hj : ∀ e ∈ X.2.1, jok e X.2.2.1) : ∃ σ', F_28 N t h σ = some σ' ∧ SX σ0 σ' t (xb h X.2.1 X.1 X.2.2.1 X.2.2.2) := by
  have hl : X.2.1.length ≤ 256 := by obtain ⟨_, _, _, hs⟩ := hx; exact hs.2.2.1
  exact L28 (N := N) (h := h) ht hq X.2.1 X.1 X.2.2.1 X.2.2.2 σ 0 N hx hn hj (by omega) (by omega)
