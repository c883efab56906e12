/-! the class's parser: a word is taken, the rest -/
section TL
variable {N t : Nat} {σ0 σ : st_S} {X : Xs}
def xclose (K st : Int32) (X : Xs) : Option Xs :=
  if X.1 9 = 1 then (if K = 256 then some (xopen 2 (xem 26 (X.1 10) (X.1 13) (X.1 9) (X.1 11) X)) else none)
  else if X.1 9 = 2 then (if K = 306 then some (xopen 3 (xem 26 (X.1 10) (X.1 13) (X.1 9) (X.1 11) X)) else if K = 59 then some (xfin st (xem 26 (X.1 10) (X.1 13) (X.1 9) (X.1 11) X)) else none)
  else if X.1 9 = 5 then (if K = 257 then some (xbr (xem 26 (X.1 10) (X.1 13) (X.1 9) (X.1 11) X)) else none)
  else if X.1 9 = 6 then (if K = 58 then some (xw 6 (X.1, X.2.1, X.2.2.1 + 1, pat (xem 26 (X.1 10) (X.1 13) (X.1 9) (X.1 11) X).2.2.2 (X.1 15).toNatClampNeg 1 (X.1 10))) else none)
  else if X.1 9 = 7 then (if K = 41 then some (xw 12 (xem 26 (X.1 10) (X.1 13) (X.1 9) (X.1 11) X)) else none)
  else (if K = 59 then some (xfin st (xem 26 (X.1 10) (X.1 13) (X.1 9) (X.1 11) X)) else none)
theorem F38' (ht : t = 4 ∨ t = 20) (hq : gC σ0 + 200000 < vz_M0) (K : Int32) (h : SX σ0 σ t X) (hn : X.2.2.1 + 3 < 25000) (hb : X.1 9 = 6 → ∃ j, j < X.2.2.1 ∧ X.1 15 = nI j) : Hx (F_38 N t K σ) σ0 t (xclose K (gI σ0 2 4) X) := by
  obtain ⟨σ1, e1, s1, -⟩ := E30' (N := N) ht hq 26 (X.1 10) (X.1 13) (X.1 9) (X.1 11) h (by omega)
  have n1 : (xem 26 (X.1 10) (X.1 13) (X.1 9) (X.1 11) X).2.2.1 < 25000 := by show X.2.2.1 + 1 < 25000; omega
  have f40 := F40' (N := N) ht hq s1 n1
  have p9 : gI σ1 36 9 = X.1 9 := s1.p
  have p10 : gI σ1 36 10 = X.1 10 := s1.p
  have p15 : gI σ1 36 15 = X.1 15 := s1.p
  unfold F_38 xclose
  rw [h.p, h.p, h.p, h.p, e1, ob_some]
  dsimp only
  rw [p9, p10, p15]
  refine Hx.ite (fun _ => Hx.ite (fun _ => (F39' ht 2 s1).w2) (fun _ => Hx.no s1)) fun _ => ?_
  refine Hx.ite (fun _ => Hx.ite (fun _ => (F39' ht 3 s1).w1) (fun _ => Hx.ite (fun _ => f40.w2) (fun _ => Hx.no s1))) fun _ => ?_
  refine Hx.ite (fun _ => Hx.ite (fun _ => (F41' ht hq s1 n1).w2) (fun _ => Hx.no s1)) fun _ => ?_
  refine Hx.ite (fun c => ?_) fun _ => ?_
  · obtain ⟨j, j1, j2⟩ := hb c
    have a : aB (X.1 15) (gN σ1 (t + 3)) := by
      rw [j2]
      exact s1.aN (c := 1) (by decide) (by show j < X.2.2.1 + 1; omega)
    have s2 := s1.n ht (c := 1) (i := (X.1 15).toNatClampNeg) (by decide) (X.1 10)
    rw [if_pos a]
    exact Hx.ite (fun _ => (F32' ht 6 s2).w2) (fun _ => Hx.no s2)
  refine Hx.ite (fun _ => Hx.ite (fun _ => (F32' ht 12 s1).w2) (fun _ => Hx.no s1)) fun _ => ?_
  exact Hx.ite (fun _ => f40.w2) (fun _ => Hx.no s1)
end TL
section TM
variable {N t n : Nat} {σ0 σ : st_S} {p e : Nat → Int32} {W : List (Nat → Int32)} {M : Nat → Nat → Int32}
theorem SX.ta (h : SX σ0 σ t (p, e :: W, n, M)) : gI σ 36 6 - 1 = nI W.length ∧ (∀ c, c < 5 → aB (nI W.length) (gN σ (37 + c))) ∧ (nI W.length).toNatClampNeg = W.length ∧ (∀ c, c < 5 → gE σ (37 + c) W.length = e c) ∧ W.length < 256 := by
  obtain ⟨_, _, _, hs⟩ := h
  obtain ⟨a, b, c, d⟩ := top_a hs
  exact ⟨a, b, c, d, hs.2.2.1⟩
def xoth (st : Int32) (e : Nat → Int32) (W : List (Nat → Int32)) (p : Nat → Int32) (n : Nat) (M : Nat → Nat → Int32) : Xs := xw 14 (p, up (up (up e 0 19) 3 (p 13)) 4 (nI n) :: W, n + 1, pat (ndd M n (nv8 25 st (-1) (-1) (-1))) (e 4).toNatClampNeg 4 (nI (n + 1)))
theorem F42' (ht : t = 4 ∨ t = 20) (hq : gC σ0 + 200000 < vz_M0) (h : SX σ0 σ t (p, e :: W, n, M)) (hn : n < 24990) (hj : ∃ j, j < n ∧ e 4 = nI j) : Hx (F_42 N t (nI W.length) σ) σ0 t (some (xoth (gI σ0 2 4) e W p n M)) := by
  obtain ⟨σ1, e1, s1, -⟩ := E30' (N := N) ht hq 25 (gI σ0 2 4) (-1) (-1) (-1) h (by show n < 25000; omega)
  have s1 : SX σ0 σ1 t (p, e :: W, n + 1, ndd M n (nv8 25 (gI σ0 2 4) (-1) (-1) (-1))) := s1
  obtain ⟨b1, b2, b3, b4, b5⟩ := s1.ta
  obtain ⟨j, j1, j2⟩ := hj
  have c0 : aB (nI W.length) (gN σ1 37) := b2 0 (by decide)
  have c3 : aB (nI W.length) (gN σ1 40) := b2 3 (by decide)
  have c4 : aB (nI W.length) (gN σ1 41) := b2 4 (by decide)
  have g4 : gE σ1 41 W.length = e 4 := b4 4 (by decide)
  have a6 : aB (e 4) (gN σ1 (t + 6)) := by
    rw [j2]
    exact s1.aN (c := 4) (by decide) (by show j < n + 1; omega)
  have z : gI σ1 (t + 1) 8 = nI (n + 1) := s1.z
  have p13 : gI σ1 36 13 = p 13 := s1.p
  have s2 := s1.n ht (c := 4) (i := (e 4).toNatClampNeg) (by decide) (nI (n + 1))
  have s3 := SX.top ht s2 (c := 0) (by decide) 19
  have s4 := SX.top ht s3 (c := 3) (by decide) (p 13)
  have s5 := SX.top ht s4 (c := 4) (by decide) (nI n)
  unfold F_42
  have e1 : F_30 N t 25 (gI σ0 2 4) (-1) (-1) (-1) σ = some (nI n, σ1) := e1
  rw [h.w ht, e1, ob_some]
  dsimp only
  simp only [if_pos c4, b3, g4, if_pos a6, if_pos c0, if_pos c3, z, p13]
  exact (F32' ht 14 s5).w1
def fP (e p : Nat → Int32) (n : Nat) : Nat → Int32 := if e 3 < 0 then p else up p 13 (nI n)
def fE (e p : Nat → Int32) (n : Nat) : Nat → Int32 := if e 3 < 0 then up e 3 (p 13) else up e 3 (nI n)
def fN (e : Nat → Int32) (n : Nat) : Nat := if e 3 < 0 then n else n + 1
def fM (e p : Nat → Int32) (n : Nat) (M : Nat → Nat → Int32) : Nat → Nat → Int32 := if e 3 < 0 then M else ndd M n (nv8 (e 0) (e 1) (e 3) (p 13) (-1))
theorem F43' (ht : t = 4 ∨ t = 20) (hq : gC σ0 + 200000 < vz_M0) (h : SX σ0 σ t (p, e :: W, n, M)) (hn : n < 24990) : ∃ σ', F_43 N t (nI W.length) σ = some σ' ∧ SX σ0 σ' t (fP e p n, fE e p n :: W, fN e n, fM e p n M) := by
  obtain ⟨b1, b2, b3, b4, b5⟩ := h.ta
  have c0 : aB (nI W.length) (gN σ 37) := b2 0 (by decide)
  have c1 : aB (nI W.length) (gN σ 38) := b2 1 (by decide)
  have c3 : aB (nI W.length) (gN σ 40) := b2 3 (by decide)
  have g0 : gE σ 37 W.length = e 0 := b4 0 (by decide)
  have g1 : gE σ 38 W.length = e 1 := b4 1 (by decide)
  have g3 : gE σ 40 W.length = e 3 := b4 3 (by decide)
  have p13 : gI σ 36 13 = p 13 := h.p
  unfold F_43 fP fE fN fM
  simp only [if_pos c3, b3, g3, g0, g1, p13]
  by_cases c : e 3 < 0
  · rw [if_pos c, if_pos c, if_pos c, if_pos c, if_pos c]
    exact ⟨_, rfl, SX.top ht h (c := 3) (by decide) (p 13)⟩
  · rw [if_neg c, if_neg c, if_neg c, if_neg c, if_neg c, if_pos c0, if_pos c1]
    obtain ⟨σ1, e1, s1, -⟩ := E30' (N := N) ht hq (e 0) (e 1) (e 3) (p 13) (-1) h (by show n < 25000; omega)
    have e1 : F_30 N t (e 0) (e 1) (e 3) (p 13) (-1) σ = some (nI n, σ1) := e1
    have s1 : SX σ0 σ1 t (p, e :: W, n + 1, ndd M n (nv8 (e 0) (e 1) (e 3) (p 13) (-1))) := s1
    have c3' : aB (nI W.length) (gN σ1 40) := s1.ta.2.1 3 (by decide)
    rw [e1, ob_some]
    dsimp only
    rw [if_pos c3']
    exact ⟨_, rfl, SX.top ht (SX.i (k := 13) ht s1 (by decide) (by decide) (nI n)) (c := 3) (by decide) (nI n)⟩
def xlist (e : Nat → Int32) (W : List (Nat → Int32)) (p : Nat → Int32) (n : Nat) (M : Nat → Nat → Int32) : Xs := (up (up (fP e p n) 13 (nI (fN e n))) 12 (fP e p n 12 - 1), W, fN e n + 1, ndd (fM e p n M) (fN e n) (nv8 22 (fE e p n 1) (fP e p n 13) (-1) (-1)))
theorem F44' (ht : t = 4 ∨ t = 20) (hq : gC σ0 + 200000 < vz_M0) (h : SX σ0 σ t (p, e :: W, n, M)) (hn : n < 24990) : Hx (F_44 N t (nI W.length) σ) σ0 t (some (xlist e W p n M)) := by
  obtain ⟨σ1, e1, s1⟩ := F43' (N := N) ht hq h hn
  have hn1 : fN e n < 25000 := by unfold fN; split <;> omega
  obtain ⟨b1, b2, b3, b4, b5⟩ := s1.ta
  have c1 : aB (nI W.length) (gN σ1 38) := b2 1 (by decide)
  have g1 : gE σ1 38 W.length = fE e p n 1 := b4 1 (by decide)
  have p13 : gI σ1 36 13 = fP e p n 13 := s1.p
  obtain ⟨σ2, e2, s2, -⟩ := E30' (N := N) ht hq 22 (fE e p n 1) (fP e p n 13) (-1) (-1) s1 hn1
  have e2 : F_30 N t 22 (fE e p n 1) (fP e p n 13) (-1) (-1) σ1 = some (nI (fN e n), σ2) := e2
  have s2 : SX σ0 σ2 t (fP e p n, fE e p n :: W, fN e n + 1, ndd (fM e p n M) (fN e n) (nv8 22 (fE e p n 1) (fP e p n 13) (-1) (-1))) := s2
  have h6 := s2.ta.1
  have h12 : gI σ2 36 12 = fP e p n 12 := s2.p
  unfold F_44
  rw [e1, ob_some, if_pos c1, b3, g1, p13, e2, ob_some]
  dsimp only
  rw [h6, h12]
  have s3 := SX.i (k := 13) ht s2 (by decide) (by decide) (nI (fN e n))
  exact Hx.ys (SX.i (k := 12) ht (SX.pop ht s3) (by decide) (by decide) (fP e p n 12 - 1))
def xe119 (K : Int32) (e : Nat → Int32) (W : List (Nat → Int32)) (p : Nat → Int32) (n : Nat) (M : Nat → Nat → Int32) : Option Xs := if K = 44 then some (xw 14 (fP e p n, fE e p n :: W, fN e n, fM e p n M)) else if K = 41 then some (xlist e W p n M) else none
theorem J119 (ht : t = 4 ∨ t = 20) (hq : gC σ0 + 200000 < vz_M0) (h : SX σ0 σ t (p, e :: W, n, M)) (hn : n < 24990) : Hx (J_37_119 N t σ) σ0 t (xe119 (gI σ0 2 3) e W p n M) := by
  obtain ⟨b1, -⟩ := h.ta
  obtain ⟨σ1, e1, s1⟩ := F43' (N := N) ht hq h hn
  unfold J_37_119 xe119
  rw [h.w ht, b1, e1, ob_some]
  exact Hx.ite (fun _ => (F32' ht 14 s1).w1) (fun _ => Hx.ite (fun _ => (F44' ht hq h hn).w2) (fun _ => Hx.no h))
def xe105 (K : Int32) (e : Nat → Int32) (W : List (Nat → Int32)) (p : Nat → Int32) (n : Nat) (M : Nat → Nat → Int32) : Option Xs := if e 0 = 20 then xe119 K e W p n M else if e 0 = 21 then xe119 K e W p n M else none
def xe76 (K st : Int32) (e : Nat → Int32) (W : List (Nat → Int32)) (p : Nat → Int32) (n : Nat) (M : Nat → Nat → Int32) : Option Xs := if K = 58 then (if e 0 = 36 then some (xoth st e W p n M) else xe105 K e W p n M) else xe105 K e W p n M
theorem J76 (ht : t = 4 ∨ t = 20) (hq : gC σ0 + 200000 < vz_M0) (h : SX σ0 σ t (p, e :: W, n, M)) (hn : n < 24990) (hj : e 0 = 36 → ∃ j, j < n ∧ e 4 = nI j) : Hx (J_37_76 N t (e 0) σ) σ0 t (xe76 (gI σ0 2 3) (gI σ0 2 4) e W p n M) := by
  obtain ⟨b1, -⟩ := h.ta
  have j := J119 (N := N) ht hq h hn
  have j2 : Hx (J_37_105 N t (e 0) σ) σ0 t (xe105 (gI σ0 2 3) e W p n M) := by
    unfold J_37_105 xe105
    exact Hx.ite (fun _ => j) (fun _ => Hx.ite (fun _ => j) (fun _ => Hx.no h))
  unfold J_37_76 xe76
  rw [h.w ht, b1]
  exact Hx.ite (fun _ => Hx.ite (fun c => (F42' ht hq h hn (hj c)).w1) (fun _ => j2)) (fun _ => j2)
/-- a rule's part ends, or the rule -/
def xend0 (K st : Int32) (Y : Xs) : Option Xs := match Y with
  | (p, [], Z) => xclose K st (p, [], Z)
  | (p, e :: W, n, M) => if K = 41 then (if e 0 = 35 then some (up p 12 (p 12 - 1), W, n, M) else xe76 K st e W p n M) else xe76 K st e W p n M
def xend (K st : Int32) (X : Xs) : Option Xs := xend0 K st (xbX 1 X)
theorem F37' {X : Xs} {B : Nat} (hB : 20 ≤ B) (ht : t = 4 ∨ t = 20) (hN : 1000 < N) (hq : gC σ0 + 200000 < vz_M0) (hx : SX σ0 σ t X) (hv : VX B X) (hb : X.1 9 = 6 → ∃ j, j < X.2.2.1 ∧ X.1 15 = nI j) : Hx (F_37 N t σ) σ0 t (xend (gI σ0 2 3) (gI σ0 2 4) X) := by
  obtain ⟨σ1, e1, s1⟩ := F28' ht hN hq 1 hx hv
  have v1 := xbX_ok 1 hv
  have b1 : (xbX 1 X).1 9 = 6 → ∃ j, j < (xbX 1 X).2.2.1 ∧ (xbX 1 X).1 15 = nI j := by
    have key : ∀ (W : List (Nat → Int32)) (p : Nat → Int32) (n : Nat) (M : Nat → Nat → Int32), (xb 1 W p n M).1 9 = p 9 ∧ (xb 1 W p n M).1 15 = p 15 ∧ n ≤ (xb 1 W p n M).2.2.1 := by
      intro W
      induction W with
      | nil => intro p n M; exact ⟨rfl, rfl, Nat.le_refl _⟩
      | cons e W ih =>
        intro p n M
        have ex : xb 1 (e :: W) p n M = if hI (e 0) < 1 then (p, e :: W, n, M) else xb 1 W (bpp e p n) (n + 1) (bMM e p n M) := rfl
        rw [ex]
        split
        · exact ⟨rfl, rfl, Nat.le_refl _⟩
        · obtain ⟨i1, i2, i3⟩ := ih (bpp e p n) (n + 1) (bMM e p n M)
          have q9 : bpp e p n 9 = p 9 := by unfold bpp; repeat' split
                                            all_goals rfl
          have q15 : bpp e p n 15 = p 15 := by unfold bpp; repeat' split
                                               all_goals rfl
          exact ⟨i1.trans q9, i2.trans q15, by omega⟩
    intro c
    obtain ⟨k1, k2, k3⟩ := key X.2.1 X.1 X.2.2.1 X.2.2.2
    obtain ⟨j, j1, j2⟩ := hb (k1.symm.trans c)
    exact ⟨j, Nat.lt_of_lt_of_le j1 k3, k2.trans j2⟩
  unfold F_37 xend
  rw [e1, ob_some]
  generalize hY : xbX 1 X = Y at s1 v1 b1
  obtain ⟨p, W, n, M⟩ := Y
  cases W with
  | nil =>
    have h0 : gI σ1 36 6 = 0 := s1.h.1
    rw [if_pos h0, s1.w ht]
    exact (F38' ht hq (gI σ0 2 3) s1 (by have h := v1.1; have h : n + 0 + B < 25000 := h; show n + 3 < 25000; omega) b1).w1
  | cons e W =>
    have hne : ¬ gI σ1 36 6 = 0 := by
      have h2 : gI σ1 36 6 = nI (W.length + 1) := s1.h.1
      have h3 : W.length + 1 ≤ 256 := s1.h.2
      rw [h2]
      exact nik (m := 0) (by omega) (by decide) (by omega)
    obtain ⟨a1, a2, a3, a4, a5⟩ := s1.ta
    have c0 : aB (nI W.length) (gN σ1 37) := a2 0 (by decide)
    have g0 : gE σ1 37 W.length = e 0 := a4 0 (by decide)
    have p12 : gI σ1 36 12 = p 12 := s1.p
    have hn : n < 24990 := by have h : n + (W.length + 1) + B < 25000 := v1.1; omega
    have j := J76 (N := N) ht hq s1 hn (v1.2 e List.mem_cons_self).2
    rw [if_neg hne, a1, if_pos c0, a3, g0, s1.w ht, p12]
    exact Hx.ite (fun _ => Hx.ite (fun _ => Hx.ys (SX.i (k := 12) ht (SX.pop ht s1) (by decide) (by decide) _)) (fun _ => j)) (fun _ => j)
end TM
