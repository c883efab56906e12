/-! the class explores: a command -/
section KO
variable {N t n : Nat} {l : List Int32} {w : List (Nat × Nat × Nat)} {x : Tx} {X fs hs : Nat → Nat} {tge : Int32} {M M' : Nat → Nat → Int32} {vs nx : Vl} {σ σ' σ0 : st_S} {k hd pl i : Nat} {K : Nat × (Nat → Nat) × (Nat → Nat)} {ow cf : Nat → Nat} {C S W V : Nat} {P : Pst} {I J Rr : List (Nat × Nat)} {A L : List Nat}
theorem KPt.fr2 (h : KPt σ V P) (fr : Fr 0 I J Rr A L σ σ') (h1 : (52, 9) ∉ I ∧ (52, 10) ∉ I) (h2 : 53 ∉ A ∧ 54 ∉ A) (h3 : gN σ' 65 = gN σ 65 ∧ gN σ' 55 = gN σ 55 ∧ gN σ' 56 = gN σ 56) : KPt σ' V P := by
  obtain ⟨p1, p2, p3, p4, p5, p6, ⟨p7, tab, p8, p9⟩, p10⟩ := h
  obtain ⟨a1, b1⟩ := fr.2.2.2.1 53 h2.1
  obtain ⟨a2, b2⟩ := fr.2.2.2.1 54 h2.2
  exact ⟨(fr.1 _ _ h1.1).trans p1, (fr.1 _ _ h1.2).trans p2, p3, by rw [a2, h3.2.1, h3.2.2]; exact p4, h3.1.trans p5, by rw [b2]; exact p6, ⟨a1.trans p7, tab, by rw [b1]; exact p8, p9⟩, p10⟩
/-- what all chances have as parts; their sum -/
theorem F120 (G : KGv N t n l w x) (h : KXs t n l w x X fs tge hs vs σ0 σ M) (hh : hd < n) (hpl : M hd 1 = nI pl) {Ls : List (Int64 × Int64)} (h8 : Ls.length ≤ 8) (hc : ∀ v ∈ Ls, C01 v) (hL : ∀ j (hj : j < Ls.length), gE σ 63 j = Ls[j].1.toInt32 ∧ gE σ 64 j = Ls[j].2.toInt32) : match xlc pl Ls 1 with
    | .inl e => ∃ σ', F_120 N t (nI hd) (nI Ls.length) σ = some (nI e.1, σ') ∧ KFl t n l w x X fs tge hs σ0 e σ'
    | .inr A => (xsm A Ls 0 = A → F_120 N t (nI hd) (nI Ls.length) σ = some (0, σ)) ∧ (¬ xsm A Ls 0 = A → ∃ σ', F_120 N t (nI hd) (nI Ls.length) σ = some (nI 11, σ') ∧ KFl t n l w x X fs tge hs σ0 (11, pl) σ') := by
  have ht := G.1
  have hN : 1000000 < N := G.2.1
  have cs := h.1.2.1
  have n63 : gN σ 63 = 8 := h.2.1.2.1
  have n64 : gN σ 64 = 8 := h.2.1.2.2.1
  have g3 : gE σ (t + 3) (nI hd).toNatClampNeg = nI pl := (cs.g (c := 1) (by decide) hh).trans hpl
  have a3 : aB (nI hd) (gN σ (t + 3)) := cs.a (c := 1) (by decide) hh
  have b64 : ∀ v, C01 v → v.1.toInt32.toInt64 = v.1 ∧ v.2.toInt32.toInt64 = v.2 := fun v z => ⟨toL (by have := z.1; have := z.2.1; have := z.2.2.2; omega), toL (by have := z.2.2.1; have := z.2.2.2; omega)⟩
  -- the sum
  have Ssum : ∀ (Q : List (Int64 × Int64)) (q : Nat) (z A : Int64), Ls.drop q = Q → q + Q.length = Ls.length → ∀ f, L_120 N t (f + Q.length) 71 (nI hd) (nI Ls.length) A 0 z (nI q) σ = L_120 N t f 71 (nI hd) (nI Ls.length) A 0 (xsm A Q z) (nI Ls.length) σ := by
    intro Q
    induction Q with
    | nil =>
      intro q z A _ hq f
      have hq : q = Ls.length := hq
      rw [hq]
      rfl
    | cons v Q ih =>
      intro q z A hd' hq f
      rw [List.length_cons] at hq
      have hv : Ls[q]? = some v := by
        have : (Ls.drop q)[0]? = some v := by rw [hd']; rfl
        rw [List.getElem?_drop] at this
        exact this
      obtain ⟨ql, qe⟩ := List.getElem?_eq_some_iff.mp hv
      have vm : v ∈ Ls := by rw [← qe]; exact List.getElem_mem ql
      have cv := hc v vm
      obtain ⟨e5, e6⟩ := hL q ql
      rw [qe] at e5 e6
      obtain ⟨t1, t2⟩ := b64 v cv
      have dd : ((if 1 < v.2.toInt32 then v.2.toInt32 else 1) : Int32).toInt64 = v.2 := by
        by_cases c : (1 : Int32) < v.2.toInt32
        · rw [if_pos c]; exact t2
        · rw [if_neg c]
          have c' := Int32.not_lt.mp c
          rw [Int32.le_iff_toInt_le, ← Int32.toInt_toInt64, t2] at c'
          apply Int64.toInt_inj.mp
          have := cv.2.2.1
          have e1 : (1 : Int32).toInt = 1 := rfl
          rw [e1] at c'
          show (1 : Int64).toInt = _
          rw [L1]
          omega
      rw [List.length_cons, ← Nat.add_assoc]
      conv => lhs; unfold L_120
      rw [if_neg (by decide), if_neg (nle_nI (by omega) (by omega)), if_pos (by rw [n63]; exact aB_nI (by omega) (by decide)), if_pos (by rw [n64]; exact aB_nI (by omega) (by decide)), nI_clamp (by omega), e5, e6, dd, t1, if_pos (fun y => by
        have := cv.2.2.1
        rw [y, L0] at this
        omega), nI_1]
      exact ih (q + 1) (z + v.1 * (A / v.2)) A (by rw [← List.drop_drop, hd']; rfl) (by omega) f
  -- the parts
  have Slc : ∀ (Q : List (Int64 × Int64)) (q : Nat) (A : Int64), Ls.drop q = Q → q + Q.length = Ls.length → 0 < A.toInt → A.toInt < 1000000000 → match xlc pl Q A with
      | .inl e => e = (6, pl) ∧ ∀ f, L_120 N t (f + Q.length) 5 (nI hd) (nI Ls.length) A (nI q) 0 0 σ = some (nI 6, st_i σ 62 8 (nI pl))
      | .inr Z => ∀ f, L_120 N t (f + Q.length) 5 (nI hd) (nI Ls.length) A (nI q) 0 0 σ = L_120 N t f 5 (nI hd) (nI Ls.length) Z (nI Ls.length) 0 0 σ := by
    intro Q
    induction Q with
    | nil =>
      intro q A _ hq _ _
      have hq : q = Ls.length := hq
      rw [hq]
      exact fun f => rfl
    | cons v Q ih =>
      intro q A hd' hq hA hA2
      rw [List.length_cons] at hq
      have hv : Ls[q]? = some v := by
        have : (Ls.drop q)[0]? = some v := by rw [hd']; rfl
        rw [List.getElem?_drop] at this
        exact this
      obtain ⟨ql, qe⟩ := List.getElem?_eq_some_iff.mp hv
      have vm : v ∈ Ls := by rw [← qe]; exact List.getElem_mem ql
      have cv := hc v vm
      obtain ⟨e5, e6⟩ := hL q ql
      rw [qe] at e5 e6
      obtain ⟨t1, t2⟩ := b64 v cv
      have e6c : (gE σ 64 (nI q).toNatClampNeg).toInt64 = v.2 := by rw [nI_clamp (by omega), e6]; exact t2
      obtain ⟨p1, p2, p3, p4⟩ := lc_st hA hA2 cv.2.2.1 cv.2.2.2
      have st : ∀ f, L_120 N t (f + 1) 5 (nI hd) (nI Ls.length) A (nI q) 0 0 σ = if A / dv A v.2 * v.2 < 1000000000 then L_120 N t f 5 (nI hd) (nI Ls.length) (A / dv A v.2 * v.2) (nI (q + 1)) 0 0 σ else some (nI 6, st_i σ 62 8 (nI pl)) := fun f => by
        conv => lhs; unfold L_120
        rw [if_pos rfl, if_neg (nle_nI (by omega) (by omega)), if_pos (by rw [n64]; exact aB_nI (by omega) (by decide)), e6c, F75 (by omega), ob_some]
        dsimp only
        rw [if_pos p4, if_pos (by rw [n64]; exact aB_nI (by omega) (by decide)), e6c, if_pos a3, g3, nI_1]
        by_cases c : A / dv A v.2 * v.2 < 1000000000
        · rw [if_pos ((clt _ _).mpr c), if_pos c]
        · rw [if_neg (fun z => c ((clt _ _).mp z)), if_neg c]
          rfl
      unfold xlc
      by_cases cc : A / dv A v.2 * v.2 < 1000000000
      · rw [if_pos cc]
        have c' := cc
        rw [Int64.lt_iff_toInt_lt, LG] at c'
        have I := ih (q + 1) (A / dv A v.2 * v.2) (by rw [← List.drop_drop, hd']; rfl) (by omega) (by omega) c'
        cases hx : xlc pl Q (A / dv A v.2 * v.2) with
        | inl e =>
          rw [hx] at I
          exact ⟨I.1, fun f => by rw [List.length_cons, ← Nat.add_assoc, st, if_pos cc, I.2]⟩
        | inr Z =>
          rw [hx] at I
          have I : ∀ f, L_120 N t (f + Q.length) 5 (nI hd) (nI Ls.length) (A / dv A v.2 * v.2) (nI (q + 1)) 0 0 σ = L_120 N t f 5 (nI hd) (nI Ls.length) Z (nI Ls.length) 0 0 σ := I
          exact fun f => by rw [List.length_cons, ← Nat.add_assoc, st, if_pos cc, I]
      · rw [if_neg cc]
        exact ⟨rfl, fun f => by rw [List.length_cons, ← Nat.add_assoc, st, if_neg cc]⟩
  have S0 := Slc Ls 0 1 rfl (by omega) (by decide) (by decide)
  unfold F_120
  cases hx : xlc pl Ls 1 with
  | inl e =>
    rw [hx] at S0
    obtain ⟨q1, q2⟩ := S0
    subst q1
    refine ⟨_, ?_, (KFl.st (N := N) ht h (f := 6) (p := pl) (by decide)).2⟩
    have := q2 (N - Ls.length)
    rw [show N - Ls.length + Ls.length = N by omega] at this
    exact this
  | inr A =>
    rw [hx] at S0
    have S0 : ∀ f, L_120 N t (f + Ls.length) 5 (nI hd) (nI Ls.length) 1 (nI 0) 0 0 σ = L_120 N t f 5 (nI hd) (nI Ls.length) A (nI Ls.length) 0 0 σ := S0
    have e1 : L_120 N t N 5 (nI hd) (nI Ls.length) 1 0 0 0 σ = L_120 N t (N - Ls.length - 1 - Ls.length - 1 + 1) 71 (nI hd) (nI Ls.length) A 0 (xsm A Ls 0) (nI Ls.length) σ := by
      have := S0 (N - Ls.length - 1 + 1)
      rw [show N - Ls.length - 1 + 1 + Ls.length = N by omega] at this
      refine (show L_120 N t N 5 (nI hd) (nI Ls.length) 1 0 0 0 σ = _ from this).trans ?_
      conv => lhs; unfold L_120
      rw [if_pos rfl, if_pos (Int32.le_refl _)]
      have := Ssum Ls 0 0 A rfl (by omega) (N - Ls.length - 1 - Ls.length - 1 + 1)
      rw [show N - Ls.length - 1 - Ls.length - 1 + 1 + Ls.length = N - Ls.length - 1 by omega] at this
      exact this
    rw [e1]
    refine ⟨fun z => ?_, fun z => ⟨_, ?_, (KFl.st (N := N) ht h (f := 11) (p := pl) (by decide)).2⟩⟩
    · unfold L_120
      rw [if_neg (by decide), if_pos (Int32.le_refl _), if_pos ((ceq _ _).mpr z)]
    · unfold L_120
      rw [if_neg (by decide), if_pos (Int32.le_refl _), if_neg (fun y => z ((ceq _ _).mp y)), if_pos a3, g3]
      rfl
/-- the command is put down -/
theorem F121 (hq : gC σ + 1000 < vz_M0) (hl : KLn σ) (hC : KCm σ K W) (hW : gI σ 52 12 = nI W) (hK : K.1 ≤ 4096) (hS : S ≤ gN σ 55) (hT : KSt σ k ow cf K.1 S) : ∃ σ', F_121 N (nI k) (nI i) σ = some σ' ∧ KCm σ' (K.1 + 1, upv K.2.1 K.1 i, upv K.2.2 K.1 W) W ∧ KLn σ' ∧ KSt σ' k ow cf (K.1 + 1) S ∧ gN σ' 55 = gN σ 55 ∧ Fr 0 [(52, 11)] [] [] [56, 57, 58] [] σ σ' := by
  have fin : ∀ s : st_S, KLn s → KCm s K W → gI s 52 12 = nI W → S ≤ gN s 55 → KSt s k ow cf K.1 S → K.1 < gN s 57 → ∃ σ', J_121_46 N (nI k) (nI i) s = some σ' ∧ KCm σ' (K.1 + 1, upv K.2.1 K.1 i, upv K.2.2 K.1 W) W ∧ KLn σ' ∧ KSt σ' k ow cf (K.1 + 1) S ∧ gN σ' 55 = gN s 55 ∧ Fr 0 [(52, 11)] [] [] [56, 57, 58] [] s σ' := by
    intro s sl sC sW sS sT slt
    obtain ⟨-, -, -, -, ⟨y1, y2, y3, y4⟩, ⟨g1, g2, g3⟩, -⟩ := id sl
    obtain ⟨t1, t2, t3, t4⟩ := sC
    obtain ⟨w1, w2, w3, w4, w5⟩ := sT
    obtain ⟨s', es⟩ : ∃ s', st_e (st_e (st_i (st_e (st_e s 57 K.1 (nI i)) 58 K.1 (nI W)) 52 11 (nI (K.1 + 1))) 58 (K.1 + 1) (nI W)) 56 (k + 1) (nI (K.1 + 1)) = s' := ⟨_, rfl⟩
    have fr : Fr 0 [(52, 11)] [] [] [56, 57, 58] [] s s' := by rw [← es]; exact Fr.t0 (Fr.e _ _ _ (by simp)) (Fr.t0 (Fr.e _ _ _ (by simp)) (Fr.t0 (Fr.i _ _ (by simp)) (Fr.t0 (Fr.e _ _ _ (by simp)) (Fr.e _ _ _ (by simp)))))
    have n0 : gN s' = gN s := by rw [← es]; rfl
    have gE' : ∀ a j, gE s' a j = if a = 56 ∧ j = k + 1 then nI (K.1 + 1) else if a = 58 ∧ j = K.1 + 1 then nI W else if a = 58 ∧ j = K.1 then nI W else if a = 57 ∧ j = K.1 then nI i else gE s a j := fun a j => by rw [← es]; rfl
    have g57' : ∀ j, gE s' 57 j = if j = K.1 then nI i else gE s 57 j := fun j => by
      rw [gE', if_neg (fun z => absurd z.1 (by decide)), if_neg (fun z => absurd z.1 (by decide)), if_neg (fun z => absurd z.1 (by decide))]
      by_cases q : j = K.1
      · rw [if_pos ⟨rfl, q⟩, if_pos q]
      · rw [if_neg (fun z => q z.2), if_neg q]
    have g58' : ∀ j, gE s' 58 j = if j = K.1 + 1 then nI W else if j = K.1 then nI W else gE s 58 j := fun j => by
      rw [gE', if_neg (fun z => absurd z.1 (by decide))]
      by_cases q : j = K.1 + 1
      · rw [if_pos ⟨rfl, q⟩, if_pos q]
      · rw [if_neg (fun z => q z.2), if_neg q]
        by_cases q2 : j = K.1
        · rw [if_pos ⟨rfl, q2⟩, if_pos q2]
        · rw [if_neg (fun z => q2 z.2), if_neg q2, if_neg (fun z => absurd z.1 (by decide))]
    have g56' : ∀ j, gE s' 56 j = if j = k + 1 then nI (K.1 + 1) else gE s 56 j := fun j => by
      rw [gE']
      by_cases q : j = k + 1
      · rw [if_pos ⟨rfl, q⟩, if_pos q]
      · rw [if_neg (fun z => q z.2), if_neg q, if_neg (fun z => absurd z.1 (by decide)), if_neg (fun z => absurd z.1 (by decide)), if_neg (fun z => absurd z.1 (by decide))]
    refine ⟨s', ?_, ⟨by rw [← es]; rfl, by rw [n0]; show K.1 + 1 ≤ _; omega, fun d hd' => ?_, fun _ => ?_⟩, sl.eq n0, ⟨fun j hj => ?_, ?_, fun j a1 a2 => ?_, w4, w5.fr fr (by simp)⟩, by rw [n0], fr⟩
    · unfold J_121_46
      rw [t1, sW, if_pos (aB_nI slt (by omega)), if_pos (show aB (nI K.1) (gN s 58) from aB_nI (by omega) (by omega)), nI_1, nI_1, if_pos (show aB (nI (K.1 + 1)) (gN s 58) from aB_nI (by omega) (by omega)), if_pos (show aB (nI (k + 1)) (gN s 56) from aB_nI (by omega) (by omega)), nI_clamp (by omega), nI_clamp (by omega), nI_clamp (by omega), es]
    · have hd' : d < K.1 + 1 := hd'
      show gE s' 57 d = nI (upv K.2.1 K.1 i d) ∧ gE s' 58 d = nI (upv K.2.2 K.1 W d)
      rw [g57', g58', if_neg (show ¬ d = K.1 + 1 by omega)]
      by_cases c : d = K.1
      · subst c
        rw [if_pos rfl, if_pos rfl, upv_s, upv_s]
        exact ⟨rfl, rfl⟩
      · rw [if_neg c, if_neg c, upv_o _ _ c, upv_o _ _ c]
        exact t3 d (by omega)
    · show gE s' 58 (K.1 + 1) = nI W
      rw [g58', if_pos rfl]
    · rw [g56', if_neg (by omega), (fr.2.2.2.1 55 (by simp)).2]
      exact w1 j hj
    · rw [g56', if_pos rfl]
    · rw [(fr.2.2.2.1 55 (by simp)).2]; exact w3 j a1 a2
  obtain ⟨m53, m63, m64, m65, m54, ⟨c1, c2, c3⟩, d1, d2, d3, d4, d5⟩ := id hl
  obtain ⟨q1, q2, q3, q4⟩ := id hC
  unfold F_121
  by_cases cl : K.1 < gN σ 57
  · obtain ⟨s', z1, z2⟩ := fin σ hl hC hW hS hT cl
    refine ⟨s', ?_, z2⟩
    rw [q1, if_pos ((nI_lti (by omega) (by omega)).mpr cl)]
    exact z1
  · have el : K.1 = gN σ 57 := by omega
    have dd : (2 : Int32) * nI (gN σ 57) = nI (2 * gN σ 57) := nI_dbl _
    have k1 : (nI (2 * gN σ 57)).toNatClampNeg = 2 * gN σ 57 := nI_clamp (by omega)
    have k2 : (nI (2 * gN σ 57 + 1)).toNatClampNeg = 2 * gN σ 57 + 1 := nI_clamp (by omega)
    have pos : ∀ a : Nat, a < 2 ^ 31 → ¬ nI a < 0 := fun a ha z => by have := (nI_lti (b := 0) ha (by decide)).mp z; omega
    obtain ⟨s1, e1⟩ : ∃ s1, st_gw σ 57 (gN σ 57) (2 * gN σ 57) = s1 := ⟨_, rfl⟩
    obtain ⟨s2, e2⟩ : ∃ s2, st_gw s1 58 (gN σ 58) (2 * gN σ 57 + 1) = s2 := ⟨_, rfl⟩
    have n1 : ∀ a, gN s1 a = if a = 57 then 2 * gN σ 57 else gN σ a := fun a => by rw [← e1, gw_N]
    have n2 : ∀ a, gN s2 a = if a = 58 then 2 * gN σ 57 + 1 else gN s1 a := fun a => by rw [← e2, gw_N]
    have n58 : gN s1 58 = gN σ 58 := by rw [n1, if_neg (by decide)]
    have cc1 : gC s1 = gC σ + 1 := by rw [← e1]; rfl
    have f1 : Fr 0 [(52, 11)] [] [] [56, 57, 58] [] σ s1 := by rw [← e1]; exact gw_fr2 rfl (by omega) (by omega) (by simp) (by decide)
    have f2 : Fr 0 [(52, 11)] [] [] [56, 57, 58] [] s1 s2 := by rw [← e2]; exact gw_fr2 n58 (by omega) (by omega) (by simp) (by decide)
    have g1 : ∀ a k, gI s2 a k = gI σ a k := fun a k => by rw [← e2, ← e1]; rfl
    have E3 : ∀ a j, a ≠ 57 → a ≠ 58 → gE s2 a j = gE σ a j := fun a j z1 z2 => by rw [← e2, gw_E, if_neg z2, ← e1, gw_E, if_neg z1]
    have E57 : ∀ j, j < gN σ 57 → gE s2 57 j = gE σ 57 j := fun j hj => by rw [← e2, gw_E, if_neg (by decide), ← e1, gw_E, if_pos rfl, if_pos hj]
    have E58 : ∀ j, j < gN σ 58 → gE s2 58 j = gE σ 58 j := fun j hj => by rw [← e2, gw_E, if_pos rfl, if_pos hj, ← e1, gw_E, if_neg (by decide)]
    have mo : ∀ a, a ≠ 57 → a ≠ 58 → gN s2 a = gN σ a := fun a z1 z2 => by rw [n2, if_neg z2, n1, if_neg z1]
    have m57 : gN s2 57 = 2 * gN σ 57 := by rw [n2, if_neg (by decide), n1, if_pos rfl]
    have m58 : gN s2 58 = 2 * gN σ 57 + 1 := by rw [n2, if_pos rfl]
    have l2 : KLn s2 := by
      unfold KLn
      rw [m57, m58, mo 53 (by decide) (by decide), mo 63 (by decide) (by decide), mo 64 (by decide) (by decide), mo 65 (by decide) (by decide), mo 54 (by decide) (by decide), mo 55 (by decide) (by decide), mo 56 (by decide) (by decide), mo 59 (by decide) (by decide), mo 60 (by decide) (by decide), mo 61 (by decide) (by decide)]
      exact ⟨m53, m63, m64, m65, m54, ⟨rfl, by omega, by omega⟩, d1, d2, d3, d4, d5.of fun a z => mo a (by omega) (by omega)⟩
    have C2 : KCm s2 K W := ⟨(g1 _ _).trans q1, by rw [m57]; omega, fun d hd' => by rw [E57 d (by omega), E58 d (by omega)]; exact q3 d hd', fun z => by rw [E58 _ (by omega)]; exact q4 z⟩
    have T2 : KSt s2 k ow cf K.1 S := by
      obtain ⟨w1, w2, w3, w4, w5⟩ := hT
      refine ⟨fun j hj => ?_, ?_, fun j a1 a2 => ?_, w4, ⟨(g1 _ _).trans w5.1, (g1 _ _).trans w5.2.1, (g1 _ _).trans w5.2.2⟩⟩
      · rw [E3 55 j (by decide) (by decide), E3 56 j (by decide) (by decide)]; exact w1 j hj
      · rw [E3 56 _ (by decide) (by decide)]; exact w2
      · rw [E3 55 j (by decide) (by decide)]; exact w3 j a1 a2
    obtain ⟨s', z1, z2, z3, z4, z5, z6⟩ := fin s2 l2 C2 ((g1 _ _).trans hW) (by rw [mo 55 (by decide) (by decide)]; exact hS) T2 (by rw [m57]; omega)
    refine ⟨s', ?_, z2, z3, z4, by rw [z5, mo 55 (by decide) (by decide)], Fr.t0 f1 (Fr.t0 f2 z6)⟩
    rw [q1, if_neg (fun z => cl ((nI_lti (by omega) (by omega)).mp z)), dd, nI_1, if_pos (show gwB σ 57 (nI (2 * gN σ 57)) from ⟨pos _ (by omega), by rw [k1]; omega, by rw [k1]; omega, by omega⟩), show st_gw σ 57 (gN σ 57) (nI (2 * gN σ 57)).toNatClampNeg = s1 by rw [k1]; exact e1, if_pos (show gwB s1 58 (nI (2 * gN σ 57 + 1)) from ⟨pos _ (by omega), by rw [k2, n58]; omega, by rw [k2]; omega, by omega⟩), show st_gw s1 58 (gN σ 58) (nI (2 * gN σ 57 + 1)).toNatClampNeg = s2 by rw [k2]; exact e2]
    exact z1
end KO
