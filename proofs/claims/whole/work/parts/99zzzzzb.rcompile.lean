/-! the reference compiles -/
/-- what the reference's compile changes -/
abbrev RFi (g x : Nat) : List (Nat × Nat) := [(66, 0), (136 - x, 1), (71, 1), (73, 1), (75, 1), (77, 1), (66, 7), (66, 8), (66, 11), (66, 12), (66, 29)] ++ RIf g
abbrev RFr : List (Nat × Nat) := [(66, 1), (66, 2), (66, 9), (66, 10)]
abbrev RFa (g : Nat) : List Nat := [72, 74, 76, 78] ++ RAf g
abbrev RFc (g x : Nat) (σ σ' : st_S) : Prop := Fr 0 (RFi g x) [] RFr (RFa g) (RLf g) σ σ'
/-- what a refused text leaves as it was -/
def RKp (σ σ' : st_S) : Prop := gI σ' 66 11 = gI σ 66 11 ∧ gI σ' 66 29 = gI σ 66 29 ∧ gR σ' 66 9 = gR σ 66 9 ∧ gR σ' 66 10 = gR σ 66 10
/-- the words' lists -/
def Ryw (σ : st_S) : Prop := (16 ≤ gN σ 72 ∧ gN σ 72 ≤ 40000) ∧ (16 ≤ gN σ 74 ∧ gN σ 74 ≤ 40000) ∧ (16 ≤ gN σ 76 ∧ gN σ 76 ≤ 40000) ∧ B78 σ
theorem W3.ry {σ : st_S} {w : List (Nat × Nat × Nat)} (h : W3 σ w) (hb : B78 σ) : Ryw σ := ⟨⟨h.1.2.2.1, h.2.2.2.1⟩, ⟨h.2.1.2.2.1, h.2.2.2.2.1⟩, ⟨h.2.2.1.2.2.1, h.2.2.2.2.2⟩, hb⟩
section RC
variable {N g x n m : Nat} {σ σ' σ'' : st_S} {l : List Int32} {w : List (Nat × Nat × Nat)} {I J Rr : List (Nat × Nat)} {A L : List Nat} {It1 : List It}
theorem RZ.up (hg : g = 79 ∨ g = 115) (h : RZ σ g) (eI : ∀ a k, 79 ≤ a → gI σ' a k = gI σ a k) (eA : ∀ a, 79 ≤ a → gN σ' a = gN σ a ∧ gE σ' a = gE σ a) : RZ σ' g := by
  obtain ⟨h1, h2, a1, a2, a3, a4, a5, a6, a7, a8, a9, a10⟩ := h
  refine ⟨fun o ho => ?_, fun o ho => ?_, fun a p q => (eA a (by omega)).1.trans (a1 a p q), fun a p q => (eA a (by omega)).1.trans (a2 a p q), fun a p q => (eA a (by omega)).1.trans (a3 a p q), fun a p q => (eA a (by omega)).1.trans (a4 a p q), (eA _ (by omega)).1.trans a5, (eA _ (by omega)).1.trans a6, (eA _ (by omega)).1.trans a7, (eA _ (by omega)).1.trans a8, (eA _ (by omega)).1.trans a9, (eA _ (by omega)).1.trans a10⟩
  · have o79 : 79 ≤ o := by
      simp only [List.mem_cons, List.not_mem_nil, or_false] at ho
      omega
    obtain ⟨L, ⟨y1, y2, y3, y4⟩, y5⟩ := h1 o ho
    obtain ⟨e1, e2⟩ := eA (o + 1) (by omega)
    exact ⟨L, ⟨(eI o 1 o79).trans y1, by rw [e1]; exact y2, by rw [e1]; exact y3, by rw [e2]; exact y4⟩, by rw [e1]; exact y5⟩
  · have o79 : 79 ≤ o := by
      simp only [List.mem_cons, List.not_mem_nil, or_false] at ho
      omega
    rw [(eA (o + 1) (by omega)).1]
    exact h2 o ho
theorem Ryw.eq (h : Ryw σ) (e : gN σ' = gN σ) : Ryw σ' := by unfold Ryw B78; rw [e]; exact h
theorem F135c (hg : g = 79 ∨ g = 115) (hx : x = 67 ∨ x = 69) (hN : 20000000 < N) (hq : gC σ + 780000 < vz_M0) (hr : Rd σ x l) (hz : RZ σ g) (hw : Ryw σ) : match crd (kds l) c0 0 with
    | some e => e < (wds l).length → ∃ σ', F_135 N g x σ = some (1, σ') ∧ gI σ' 66 12 = nI (kP (wds l) e) ∧ RFc g x σ σ' ∧ RZ σ' g ∧ Ryw σ' ∧ gI σ' (136 - x) 1 = 0 ∧ (gR σ' 66 1 = 136 - x ∧ gR σ' 66 2 = x) ∧ RKp σ σ'
    | none => ∀ It1 m, PI (wds l) It1 m → kK (wds l) m = 0 → m < (wds l).length → match txt l (wds l) It1 m with
      | .inl e => ∃ σ', F_135 N g x σ = some (nI e.1, σ') ∧ gI σ' 66 12 = nI e.2 ∧ RFc g x σ σ' ∧ RZ σ' g ∧ Ryw σ' ∧ gI σ' (136 - x) 1 = 0 ∧ (gR σ' 66 1 = 136 - x ∧ gR σ' 66 2 = x) ∧ RKp σ σ'
      | .inr X => ∃ σ' n D fa, F_135 N g x σ = some (0, σ') ∧ gI σ' 66 12 = -1 ∧ RFc g x σ σ' ∧ RZ σ' g ∧ Ryw σ' ∧ gI σ' (136 - x) 1 = 0 ∧ (gR σ' 66 1 = 136 - x ∧ gR σ' 66 2 = x) ∧ RT g l (wds l) X n D fa σ' ∧ RTp l (wds l) X n ∧ gI σ' 66 11 = 1 ∧ gI σ' 66 29 = 0 ∧ gR σ' 66 9 = g ∧ gR σ' 66 10 = 194 - g := by
  obtain ⟨s0, es0⟩ : ∃ s0, st_i (st_r (st_r (st_i (σ) 66 0 0) 66 2 x) 66 1 (136 - x)) (136 - x) 1 0 = s0 := ⟨_, rfl⟩
  have f0 : Fr 0 [(66, 0), (136 - x, 1)] [] RFr [] [] σ s0 := by
    rw [← es0]
    exact Fr.t0 (Fr.t0 (Fr.t0 (Fr.i _ _ (by simp)) (Fr.r _ _ (by simp))) (Fr.r _ _ (by simp))) (Fr.i _ _ (by simp))
  have n0 : gN s0 = gN σ := by rw [← es0]; rfl
  have c0' : gC s0 = gC σ := by rw [← es0]; rfl
  have z0 : gI s0 (136 - x) 1 = 0 := by rw [← es0, gI_i, if_pos ⟨rfl, rfl⟩]
  have r0 : Rd s0 x l := hr.fr f0 (by simp only [List.mem_cons, List.not_mem_nil, or_false, Prod.mk.injEq]; omega) (by simp)
  obtain ⟨w72, w74, w76, w78⟩ := hw
  obtain ⟨s1, e1, h3, f1⟩ := F136 (N := N) hx (by omega) r0 (by rw [n0]; exact ⟨w72.2, w72.1, w74.2, w74.1, w76.2, w76.1⟩) (by rw [c0']; omega)
  have g1 : gC s1 ≤ gC s0 + 7500 := by
    have := f1.gcl (C := 40000) (k := 3) (fun a ha => by
      simp only [List.mem_cons, List.not_mem_nil, or_false] at ha
      rcases ha with rfl | rfl | rfl
      · exact h3.2.2.2.1
      · exact h3.2.2.2.2.1
      · exact h3.2.2.2.2.2) (by decide +kernel)
    omega
  have hl : l.length ≤ 16384 := hr.2.2.2.1
  have b1 : B78 s1 := by unfold B78; rw [(f1.2.2.2.1 78 (by decide)).1, n0]; exact w78
  obtain ⟨s2, r, e2, rd, f2, h3', b2⟩ := F147b (N := N) hN (by omega) h3 hl b1
  have g2 : gC s2 ≤ gC s1 + 2500 := by
    have := f2.gcl (C := 40000) (k := 1) (fun a ha => by
      simp only [List.mem_cons, List.not_mem_nil, or_false] at ha
      subst ha
      exact b2.2) (by decide +kernel)
    omega
  have f02 : RFc g x σ s2 := Fr.t0 (f0.mo (by intro q z; simp only [List.mem_append, List.mem_cons, List.not_mem_nil, or_false] at z ⊢; rcases z with z | z <;> simp [z]) (by simp) (fun _ q => q) (by simp) (by simp)) (Fr.t0 (f1.mo (by intro q z; simp only [List.mem_append, List.mem_cons, List.not_mem_nil, or_false] at z ⊢; rcases z with z | z | z <;> simp [z]) (by simp) (by simp) (by intro q z; simp only [List.mem_append, List.mem_cons, List.not_mem_nil, or_false] at z ⊢; omega) (by simp)) (f2.mo (by intro q z; simp only [List.mem_append, List.mem_cons, List.not_mem_nil, or_false] at z ⊢; rcases z with z | z | z <;> simp [z]) (by simp) (by simp) (by intro q z; simp only [List.mem_append, List.mem_cons, List.not_mem_nil, or_false] at z ⊢; omega) (by simp)))
  have i2 : ∀ a k, 79 ≤ a → gI s2 a k = gI σ a k := fun a k z => by
    rw [f2.1 a k (by simp only [List.mem_cons, List.not_mem_nil, or_false, Prod.mk.injEq]; omega), f1.1 a k (by simp only [List.mem_cons, List.not_mem_nil, or_false, Prod.mk.injEq]; omega), f0.1 a k (by simp only [List.mem_cons, List.not_mem_nil, or_false, Prod.mk.injEq]; omega)]
  have a2 : ∀ a, 79 ≤ a → gN s2 a = gN σ a ∧ gE s2 a = gE σ a := fun a z => by
    have y2 := f2.2.2.2.1 a (by simp only [List.mem_cons, List.not_mem_nil, or_false]; omega)
    have y1 := f1.2.2.2.1 a (by simp only [List.mem_cons, List.not_mem_nil, or_false]; omega)
    have y0 := f0.2.2.2.1 a (by simp)
    exact ⟨y2.1.trans (y1.1.trans y0.1), y2.2.trans (y1.2.trans y0.2)⟩
  have z2 : RZ s2 g := hz.up hg i2 a2
  have x2 : gI s2 (136 - x) 1 = 0 := by
    rw [f2.1 _ _ (by simp only [List.mem_cons, List.not_mem_nil, or_false, Prod.mk.injEq]; omega), f1.1 _ _ (by simp only [List.mem_cons, List.not_mem_nil, or_false, Prod.mk.injEq]; omega)]; exact z0
  have kI : ∀ k, k = 11 ∨ k = 29 → gI s2 66 k = gI σ 66 k := fun k z => by
    rw [f2.1 66 k (by simp only [List.mem_cons, List.not_mem_nil, or_false, Prod.mk.injEq]; omega), f1.1 66 k (by simp only [List.mem_cons, List.not_mem_nil, or_false, Prod.mk.injEq]; omega), f0.1 66 k (by simp only [List.mem_cons, List.not_mem_nil, or_false, Prod.mk.injEq]; omega)]
  have kR : ∀ k, gR s2 66 k = gR s0 66 k := fun k => by rw [f2.2.2.1 66 k (by simp), f1.2.2.1 66 k (by simp)]
  have q12 : gR s2 66 1 = 136 - x ∧ gR s2 66 2 = x := by
    rw [kR, kR, ← es0]
    exact ⟨rfl, rfl⟩
  have q90 : gR s2 66 9 = gR σ 66 9 ∧ gR s2 66 10 = gR σ 66 10 := by
    rw [kR, kR, ← es0]
    exact ⟨rfl, rfl⟩
  have k11 : RKp σ s2 := ⟨kI 11 (Or.inl rfl), kI 29 (Or.inr rfl), q90⟩
  cases hc : crd (kds l) c0 0 with
  | some e =>
    rw [hc] at rd
    obtain ⟨rd1, rd2⟩ := rd
    intro hlt
    refine ⟨st_i s2 66 12 (nI (kP (wds l) e)), ?_, by rw [gI_i, if_pos ⟨rfl, rfl⟩], Fr.t0 f02 (Fr.i _ _ (by simp)), z2.up hg (fun a k z => by rw [gI_i, if_neg (by omega)]) (fun a _ => ⟨rfl, rfl⟩), (h3'.ry b2).eq rfl, by rw [gI_i, if_neg (by omega)]; exact x2, q12, by rw [gI_i, if_neg (by decide)]; exact k11.1, by rw [gI_i, if_neg (by decide)]; exact k11.2.1, k11.2.2⟩
    unfold F_135
    rw [es0, e1, ob_some, e2, ob_some]
    dsimp only
    rw [rd1, if_pos rfl, rd2, F159 h3' hlt, ob_some]
  | none =>
    rw [hc] at rd
    have rd : r = 1 := rd
    intro It1 m hP hm0 hml
    have wl : (wds l).length ≤ 16385 := by
      have : (wds l).length ≤ l.length + 1 := (ws_ok l l.length (skp l 0)).2
      omega
    have r2 : Rd s2 x l := (r0.fr f1 (by simp only [List.mem_cons, List.not_mem_nil, or_false, Prod.mk.injEq]; omega) (by simp only [List.mem_cons, List.not_mem_nil, or_false]; omega)).fr f2 (by simp only [List.mem_cons, List.not_mem_nil, or_false, Prod.mk.injEq]; omega) (by simp only [List.mem_cons, List.not_mem_nil, or_false]; omega)
    have G : RG0 N g x l (wds l) s2 := ⟨hg, hx, by omega, wds_K40 l, by omega, by omega, wds_Pw hl, wds_Nmk l, wds_nv⟩
    have K := F160 G z2 h3' r2 hP hm0 hml
    have st : F_135 N g x σ = (F_160 N g x s2).bind fun p_5 => if (gI p_5 66 16) = 0 then some (0, st_i (st_i (st_i (st_r (st_r (p_5) 66 9 g) 66 10 (194 - g)) 66 11 1) 66 29 0) 66 12 (-1)) else some ((gI p_5 66 16), st_i (p_5) 66 12 (gI p_5 66 17)) := by
      unfold F_135
      rw [es0, e1, ob_some, e2, ob_some]
      dsimp only
      rw [rd, if_neg (by decide)]
    have fm : ∀ {s3 : st_S}, RB g s2 s3 → RFc g x σ s3 ∧ Ryw s3 ∧ gI s3 (136 - x) 1 = 0 ∧ (∀ k, gR s3 66 k = gR s2 66 k) ∧ gI s3 66 11 = gI σ 66 11 ∧ gI s3 66 29 = gI σ 66 29 := fun {s3} q => by
      have ea : ∀ a, 71 ≤ a → a < 79 → gN s3 a = gN s2 a := fun a y1 y2 => (q.1.2.2.2.1 a (by simp only [RAf, List.mem_cons, List.not_mem_nil, or_false]; omega)).1
      refine ⟨Fr.t0 f02 (q.1.mo (fun q z => List.mem_append.mpr (Or.inr z)) (by simp) (by simp) (fun q z => List.mem_append.mpr (Or.inr z)) (fun _ q => q)), ?_, (q.1.1 _ _ (by simp only [RIf, List.mem_cons, List.not_mem_nil, or_false, Prod.mk.injEq]; omega)).trans x2, fun k => q.1.2.2.1 66 k (by simp), (q.1.1 _ _ (by simp only [RIf, List.mem_cons, List.not_mem_nil, or_false, Prod.mk.injEq]; omega)).trans k11.1, (q.1.1 _ _ (by simp only [RIf, List.mem_cons, List.not_mem_nil, or_false, Prod.mk.injEq]; omega)).trans k11.2.1⟩
      unfold Ryw B78
      rw [ea 72 (by decide) (by decide), ea 74 (by decide) (by decide), ea 76 (by decide) (by decide), ea 78 (by decide) (by decide)]
      exact h3'.ry b2
    cases ht : txt l (wds l) It1 m with
    | inl e =>
      rw [ht] at K
      obtain ⟨s3, E, n, D, k1, k2, k3, k4⟩ := K
      have er := txt_er hP ht
      obtain ⟨m1, m2, m3, mR, m4, m5⟩ := fm k4.1.1
      refine ⟨st_i s3 66 12 (nI e.2), ?_, by rw [gI_i, if_pos ⟨rfl, rfl⟩], Fr.t0 m1 (Fr.i _ _ (by simp)), k4.rz.up hg (fun a k z => by rw [gI_i, if_neg (by omega)]) (fun a _ => ⟨rfl, rfl⟩), m2.eq rfl, by rw [gI_i, if_neg (by omega)]; exact m3, ⟨(mR 1).trans q12.1, (mR 2).trans q12.2⟩, by rw [gI_i, if_neg (by decide)]; exact m4, by rw [gI_i, if_neg (by decide)]; exact m5, (mR 9).trans q90.1, (mR 10).trans q90.2⟩
      rw [st, k1, ob_some, k2, if_neg (show ¬ nI e.1 = 0 from nik (m := 0) (by omega) (by decide) (by omega)), k3]
    | inr X =>
      rw [ht] at K
      obtain ⟨s3, n, D, fa, k1, k2, k3⟩ := K
      obtain ⟨m1, m2, m3, mR, m4, m5⟩ := fm k2.1.1.1.1
      have tf := (txt_tf wds_nv hP ht).1
      obtain ⟨s4, es4⟩ : ∃ s4, st_i (st_i (st_i (st_r (st_r s3 66 9 g) 66 10 (194 - g)) 66 11 1) 66 29 0) 66 12 (-1) = s4 := ⟨_, rfl⟩
      have f4 : Fr 0 [(66, 11), (66, 12), (66, 29)] [] RFr [] [] s3 s4 := by
        rw [← es4]
        exact Fr.t0 (Fr.t0 (Fr.t0 (Fr.t0 (Fr.r _ _ (by simp)) (Fr.r _ _ (by simp))) (Fr.i _ _ (by simp))) (Fr.i _ _ (by simp))) (Fr.i _ _ (by simp))
      have n4 : gN s4 = gN s3 := by rw [← es4]; rfl
      refine ⟨s4, n, D, fa, ?_, by rw [← es4]; rfl, Fr.t0 m1 (f4.mo (by intro q z; simp only [List.mem_append, List.mem_cons, List.not_mem_nil, or_false] at z ⊢; rcases z with z | z | z <;> simp [z]) (by simp) (fun _ q => q) (by simp) (by simp)), k2.1.1.rz.up hg (fun a k z => f4.1 a k (by simp only [List.mem_cons, List.not_mem_nil, or_false, Prod.mk.injEq]; omega)) (fun a _ => f4.2.2.2.1 a (by simp)), m2.eq n4, (f4.1 _ _ (by simp only [List.mem_cons, List.not_mem_nil, or_false, Prod.mk.injEq]; omega)).trans m3, ⟨(by rw [← es4]; exact (mR 1).trans q12.1), (by rw [← es4]; exact (mR 2).trans q12.2)⟩, k2.rt.fr hg f4 (by intro q z; simp only [List.mem_cons, List.not_mem_nil, or_false] at z; rcases z with rfl | rfl | rfl <;> simp) (by simp) (by simp) (fun a _ => by rw [n4]), ⟨by omega, wds_nv, tf.2.1, tf.len⟩, by rw [← es4]; rfl, by rw [← es4]; rfl, by rw [← es4]; rfl, by rw [← es4]; rfl⟩
      rw [st, k1, ob_some, k2.2.1, if_pos rfl, es4]
end RC
