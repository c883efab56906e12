/-! the class explores: a branch -/
/-- the mark of the k-th state; no fault yet -/
def Mk6 (σ : st_S) (k : Nat) : Prop := gI σ 42 5 = nI (k + 1) ∧ gI σ 62 8 = -1 ∧ gI σ 62 9 = -1
theorem Mk6.fr {σ σ' : st_S} {k : Nat} {I J Rr : List (Nat × Nat)} {A L : List Nat} (h : Mk6 σ k) (fr : Fr 0 I J Rr A L σ σ') (h1 : (42, 5) ∉ I ∧ (62, 8) ∉ I ∧ (62, 9) ∉ I) : Mk6 σ' k := ⟨(fr.1 _ _ h1.1).trans h.1, (fr.1 _ _ h1.2.1).trans h.2.1, (fr.1 _ _ h1.2.2).trans h.2.2⟩
/-- states' rows: owners, first commands; k: the state that is looked at -/
def KSt (σ : st_S) (k : Nat) (ow cf : Nat → Nat) (C S : Nat) : Prop := (∀ j, j ≤ k → gE σ 55 j = nI (ow j) ∧ gE σ 56 j = nI (cf j)) ∧ gE σ 56 (k + 1) = nI C ∧ (∀ j, k < j → j < S → gE σ 55 j = 0) ∧ k < S ∧ Mk6 σ k
/-- what a branch may change in the class -/
abbrev FKb (t : Nat) (σ σ' : st_S) : Prop := Fr 0 [(42, 6), (52, 10), (52, 12)] [(42, 7), (42, 8)] [] [44, 45, 53, 54, 55, 56, 58, 59, 60, 61, 65, t + 7, t + 8, t + 9] [] σ σ'
section AC
variable {σ : st_S} {src sp dst dp m : Nat} {I J R : List (Nat × Nat)} {A L : List Nat}
theorem ac_N : gN (st_ac σ src sp dst dp m) = gN σ := by
  show va_up (gN σ) dst (gN σ dst) = gN σ
  funext a
  by_cases c : a = dst
  · rw [c, va_up_self]
  · rw [va_up_ne _ _ c]
theorem ac_E (j : Nat) : gE (st_ac σ src sp dst dp m) dst j = if dp ≤ j ∧ j < dp + m then gE σ src (sp + (j - dp)) else gE σ dst j := by
  show va_up (gE σ) dst (va_cpy (gE σ src) (gE σ dst) sp dp m) dst j = _
  rw [va_up_self]
  rfl
theorem ac_fr (h : dst ∈ A) : Fr 0 I J R A L σ (st_ac σ src sp dst dp m) := by
  refine ⟨fun _ _ _ => rfl, fun _ _ _ => rfl, fun _ _ _ => rfl, fun a z => ⟨by rw [ac_N], ?_⟩, fun _ _ => rfl, rfl, Po.of ac_N rfl rfl rfl⟩
  exact va_up_ne _ _ (fun e => z (e ▸ h))
end AC
section KM2
variable {N t n : Nat} {l : List Int32} {w : List (Nat × Nat × Nat)} {x : Tx} {X fs hs : Nat → Nat} {tge : Int32} {M M' : Nat → Nat → Int32} {vs nx : Vl} {σ σ' σ0 : st_S} {k h pl q a : Nat} {b : Tr × List Tr} {s : Pst × Bn} {K : Nat × (Nat → Nat) × (Nat → Nat)} {v : Int64 × Int64} {ow cf : Nat → Nat} {C : Nat} {I J Rr : List (Nat × Nat)} {A L : List Nat}
theorem FKb.kx (fr : FKb t σ σ') : FKx t σ σ' := fr.mo (by intro a q; simp only [List.mem_cons, List.not_mem_nil, or_false] at q ⊢; rcases q with q | q | q <;> simp [q]) (fun _ q => q) (by simp) (by intro a q; simp only [List.mem_cons, List.not_mem_nil, or_false] at q ⊢; omega) (by simp)
theorem FKs.kb (fr : FKs t σ σ') : FKb t σ σ' := fr.mo (by intro a q; simp only [List.mem_cons, List.not_mem_nil, or_false] at q ⊢; simp [q]) (fun _ q => q) (by simp) (by intro a q; simp only [List.mem_cons, List.not_mem_nil, or_false] at q ⊢; omega) (by simp)
theorem KSt.fr {S : Nat} (h : KSt σ k ow cf C S) (fr : Fr 0 I J Rr A L σ σ') (h1 : 55 ∉ A) (h2 : 56 ∉ A) (h3 : (42, 5) ∉ I ∧ (62, 8) ∉ I ∧ (62, 9) ∉ I) : KSt σ' k ow cf C S := by
  obtain ⟨p1, p2, p3, p4, p5⟩ := h
  rw [← (fr.2.2.2.1 56 h2).2] at p2
  refine ⟨fun j hj => ?_, p2, fun j a1 a2 => ?_, p4, p5.fr fr h3⟩
  · rw [(fr.2.2.2.1 55 h1).2, (fr.2.2.2.1 56 h2).2]; exact p1 j hj
  · rw [(fr.2.2.2.1 55 h1).2]; exact p3 j a1 a2
/-- a branch that may be taken -/
theorem F122 (G : KGv N t n l w x) (hq : gC σ0 + 50000 < vz_M0) (hv : Vv x.1 vs) (h0 : KXs t n l w x X fs tge hs vs σ0 σ M) {i0 : Nat} (hi0 : i0 < n) (hp0 : M i0 1 = nI (kP w (bw b.1))) (hS : SetsK l w x.1 X fs n M (M i0 3) b.2.reverse) (h12 : b.2.length ≤ 12) (hh : h < n) (hpl : M h 1 = nI pl) (hP : KPt σ (cnt x.1 3) s.1) (hB : KBr σ s.2) (hC : KCm σ K s.2.1) (hK : 1 ≤ K.1) (hbW : K.2.2 (K.1 - 1) ≤ s.2.1) (hT : KSt σ k ow cf C s.1.1) (hq8 : q < 8) (e5 : gE σ 63 q = v.1.toInt32) (e6 : gE σ 64 q = v.2.toInt32) (hF : Fqs a (K.2.2 (K.1 - 1)) s.2 v) : match xb1 l w x.1 (cnt x.1 3) vs pl (K.2.2 (K.1 - 1)) b v s with
    | .inl e => ∃ σ', F_122 N t (nI h) (nI i0) (nI q) σ = some (nI e.1, σ') ∧ KFl t n l w x X fs tge hs σ0 e σ'
    | .inr s' => ∃ σ' M', F_122 N t (nI h) (nI i0) (nI q) σ = some (0, σ') ∧ KXs t n l w x X fs tge hs vs σ0 σ' M' ∧ Sta M M' ∧ KPt σ' (cnt x.1 3) s'.1 ∧ KBr σ' s'.2 ∧ KCm σ' K s'.2.1 ∧ KSt σ' k ow cf C s'.1.1 ∧ FKb t σ σ' := by
  have ht := G.1
  have hN : 1000000 < N := G.2.1
  obtain ⟨⟨km, cs, sq, mt, h43, -⟩, ln, fx⟩ := id h0
  have hV : cnt x.1 3 ≤ 12 := sq.2.2.1.1
  have e7 : gI σ t 7 = nI (cnt x.1 3) := sq.2.1.1
  obtain ⟨l10, l11, l12, l13, l14, l15, l43, l44, l45⟩ := id sq.1
  have n65 : gN σ 65 = 12 := ln.2.2.2.1
  have ac : acB (gN σ 43) (gN σ 65) 0 0 (nI (cnt x.1 3)) := by
    refine ⟨by decide, by decide, fun z => ?_, ?_, ?_⟩
    · have := (nI_lti (b := 0) (by omega) (by decide)).mp z; omega
    · rw [cl0, nI_clamp (by omega), l43]; omega
    · rw [cl0, nI_clamp (by omega), n65]; omega
  obtain ⟨s1, es⟩ : ∃ s1, st_ac σ 43 0 65 0 (cnt x.1 3) = s1 := ⟨_, rfl⟩
  have f1 : Fr 0 [] [] [] [65] [] σ s1 := by rw [← es]; exact ac_fr (by simp)
  have n1 : gN s1 = gN σ := by rw [← es]; exact ac_N
  have x1 : ∀ u, u < cnt x.1 3 → gE s1 65 u = vs u := fun u hu => by
    rw [← es, ac_E, if_pos ⟨Nat.zero_le _, by omega⟩, show 0 + (u - 0) = u by omega]
    exact h43 u hu
  have k1 : KXs t n l w x X fs tge hs vs σ0 s1 M := ⟨h0.1.fr ht f1 (by simp) (by simp), ln.eq n1, Fr.t0 fx (f1.mo (by simp) (by simp) (by simp) (by simp) (by simp))⟩
  have S := L122 (l1 := nI h) (l2 := nI i0) (l3 := nI q) G hv b.2.reverse 0 (M i0 3) s1 M vs hS (by rw [List.length_reverse]; omega) k1 x1
  rw [List.length_reverse] at S
  have E1 : F_122 N t (nI h) (nI i0) (nI q) σ = L_122 N t N (nI h) (nI i0) (nI q) (M i0 3) (nI 0) s1 := by
    unfold F_122
    rw [e7, if_pos ac, if_pos (show aB (nI i0) (gN σ (t + 5)) from cs.a (c := 3) (by decide) hi0), show gE σ (t + 5) (nI i0).toNatClampNeg = M i0 3 from cs.g (c := 3) (by decide) hi0, cl0, nI_clamp (by omega), es]
    rfl
  rw [E1]
  unfold xb1
  cases hxs : xst l w x.1 vs b.2.reverse vs with
  | inl e =>
    rw [hxs] at S
    rw [sbd_l]
    obtain ⟨s2, q1, q2⟩ := S
    refine ⟨s2, ?_, q2⟩
    have := q1 (N - b.2.length - 1)
    rw [show N - b.2.length - 1 + b.2.length + 1 = N by omega] at this
    exact this
  | inr nx =>
    rw [hxs] at S
    rw [sbd_r]
    obtain ⟨s2, M2, q1, q2, q3, q4, q5, q6⟩ := S
    have E2 : L_122 N t N (nI h) (nI i0) (nI q) (M i0 3) (nI 0) s1 = J_122_236 N t (nI h) (nI i0) (nI q) s2 := by
      have := q1 (N - b.2.length - 1)
      rw [show N - b.2.length - 1 + b.2.length + 1 = N by omega] at this
      exact this
    rw [E2]
    have f12 : FKs t σ s2 := Fr.t0 (f1.mo (by simp) (by simp) (by simp) (by simp) (by simp)) q5
    have nA : ∀ y, 53 ≤ y → y ≠ 65 → y ∉ [44, 45, 65, t + 7, t + 8, t + 9] := fun y z1 z2 => by simp only [List.mem_cons, List.not_mem_nil, or_false]; omega
    have n2 : gN s2 = gN σ := q6.trans n1
    have P2 : KPt s2 (cnt x.1 3) s.1 := hP.fr f12 (by simp) ⟨nA _ (by decide) (by decide), nA _ (by decide) (by decide), nA _ (by decide) (by decide), nA _ (by decide) (by decide)⟩ (by rw [n2])
    have B2 : KBr s2 s.2 := hB.fr f12 (by simp) ⟨nA _ (by decide) (by decide), nA _ (by decide) (by decide), nA _ (by decide) (by decide)⟩
    have C2 : KCm s2 K s.2.1 := hC.fr f12 (by simp) ⟨nA _ (by decide) (by decide), nA _ (by decide) (by decide)⟩
    have T2 : KSt s2 k ow cf C s.1.1 := hT.fr f12 (nA _ (by decide) (by decide)) (nA _ (by decide) (by decide)) (by simp)
    have gc2 := KXs.gc ht q2.b0 hq
    have cs2 := q2.1.2.1
    have F := F110 (N := N) (by omega) hV P2 q4 (by omega)
    have p63 : gE s2 63 (nI q).toNatClampNeg = v.1.toInt32 := by rw [nI_clamp (by omega), (f12.2.2.2.1 63 (nA _ (by decide) (by decide))).2]; exact e5
    have p64 : gE s2 64 (nI q).toNatClampNeg = v.2.toInt32 := by rw [nI_clamp (by omega), (f12.2.2.2.1 64 (nA _ (by decide) (by decide))).2]; exact e6
    unfold xb2 J_122_236
    cases hgo : xgo (cnt x.1 3) s.1 nx with
    | none =>
      rw [hgo] at F
      have F : F_110 N s2 = some (-1, s2) := F
      dsimp only
      refine ⟨_, ?_, (KFl.st (N := N) ht q2 (f := 5) (p := kP w (bw b.1)) (by decide)).2⟩
      rw [F, ob_some]
      dsimp only
      rw [if_neg (by decide), if_pos (show aB (nI i0) (gN s2 (t + 3)) from cs2.a (c := 1) (by decide) hi0), show gE s2 (t + 3) (nI i0).toNatClampNeg = nI (kP w (bw b.1)) from (cs2.g (c := 1) (by decide) hi0).trans (((q3 i0).1 1 (by decide)).trans hp0)]
      rfl
    | some p =>
      rw [hgo] at F
      obtain ⟨s3, r1, r2, r3, r4, r5, r6⟩ := F
      dsimp only
      obtain ⟨g1, g2, g3, g4, g5⟩ := xgo_ok hP.2.2.1 hgo
      have k3 : KX t n l w x X fs tge hs vs s3 M2 := q2.1.fr ht r3 (by simp) (by intro a z; simp only [List.mem_cons, List.not_mem_nil, or_false] at z; omega)
      have ln3 : KLn s3 := by
        have e := fun a (z : a ∉ [53, 54, 55, 56]) => (r3.2.2.2.1 a z).1
        obtain ⟨y1, y2, y3, y4, y5, y6, y7⟩ := q2.2.1
        obtain ⟨-, -, -, ⟨z1, z2, z3, z4, -⟩, -, -, ⟨z5, -⟩, -⟩ := r2
        unfold KLn
        rw [e 63 (by decide), e 64 (by decide), e 65 (by decide), e 57 (by decide), e 58 (by decide), e 59 (by decide), e 60 (by decide), e 61 (by decide)]
        exact ⟨z5, y2, y3, y4, ⟨z1, z2, z3, z4⟩, y6, y7.1, y7.2.1, y7.2.2.1, y7.2.2.2.1, y7.2.2.2.2.of fun a z => e a (by simp only [List.mem_cons, List.not_mem_nil, or_false]; omega)⟩
      have kx3 : KXs t n l w x X fs tge hs vs σ0 s3 M2 := ⟨k3, ln3, Fr.t0 q2.2.2 (r3.mo (by simp) (by simp) (by simp) (by intro a z; simp only [List.mem_cons, List.not_mem_nil, or_false] at z ⊢; omega) (by simp))⟩
      have B3 : KBr s3 s.2 := B2.fr r3 (by simp) (by simp)
      have C3 : KCm s3 K s.2.1 := C2.fr r3 (by simp) (by simp)
      have gc3 := KXs.gc ht kx3.b0 hq
      have cs3 := k3.2.1
      have T3 : KSt s3 k ow cf C p.2.1 := by
        obtain ⟨w1, w2, w3, w4, w5⟩ := T2
        obtain ⟨-, -, -, ⟨-, z2, -, -, z5⟩, -⟩ := P2
        refine ⟨fun j hj => ?_, ?_, fun j a1 a2 => ?_, by omega, w5.fr r3 (by simp)⟩
        · rw [r4 j (by omega), r6 j (by omega)]; exact w1 j hj
        · rw [r6 _ (by omega)]; exact w2
        · by_cases cj : j < s.1.1
          · rw [r4 j cj]; exact w3 j a1 cj
          · exact r5 j (by omega) a2
      have q63 : gE s3 63 (nI q).toNatClampNeg = v.1.toInt32 := by rw [(r3.2.2.2.1 63 (by simp)).2]; exact p63
      have q64 : gE s3 64 (nI q).toNatClampNeg = v.2.toInt32 := by rw [(r3.2.2.2.1 64 (by simp)).2]; exact p64
      have FF := F123 (N := N) (σ := s3) (by omega) (by omega) ln3 B3 C3 hK hbW (show p.1 < 512 by omega) hF
      have st : ((F_110 N s2).bind fun p_24 =>
          if 0 ≤ p_24.1 then
            if aB (nI q) (gN p_24.2 63) then
            if aB (nI q) (gN p_24.2 64) then
            (F_123 N p_24.1 (gE (p_24.2) 63 (nI q).toNatClampNeg) (gE (p_24.2) 64 (nI q).toNatClampNeg) (p_24.2)).bind fun p_28 =>
            if p_28.1 = 0 then
              if aB (nI h) (gN p_28.2 (t + 3)) then
              (F_116 N 5 (gE (p_28.2) (t + 3) (nI h).toNatClampNeg) (p_28.2)).bind fun p_31 =>
              some (p_31.1, p_31.2)
              else none
            else
              some (0, p_28.2)
            else none
            else none
          else
            if aB (nI i0) (gN p_24.2 (t + 3)) then
            (F_116 N 5 (gE (p_24.2) (t + 3) (nI i0).toNatClampNeg) (p_24.2)).bind fun p_33 =>
            some (p_33.1, p_33.2)
            else none) = (F_123 N (nI p.1) v.1.toInt32 v.2.toInt32 s3).bind fun p_28 =>
            if p_28.1 = 0 then
              if aB (nI h) (gN p_28.2 (t + 3)) then
              (F_116 N 5 (gE (p_28.2) (t + 3) (nI h).toNatClampNeg) (p_28.2)).bind fun p_31 =>
              some (p_31.1, p_31.2)
              else none
            else
              some (0, p_28.2) := by
        rw [r1, ob_some]
        dsimp only
        rw [if_pos (show (0 : Int32) ≤ nI p.1 from le_nI (a := 0) (Nat.zero_le _) (by omega)), if_pos (show aB (nI q) (gN s3 63) by rw [ln3.2.1]; exact aB_nI hq8 (by decide)), if_pos (show aB (nI q) (gN s3 64) by rw [ln3.2.2.1]; exact aB_nI hq8 (by decide)), q63, q64]
      rw [st]
      cases hbw : xbw (K.2.2 (K.1 - 1)) s.2 p.1 v with
      | none =>
        rw [hbw] at FF
        have FF : F_123 N (nI p.1) v.1.toInt32 v.2.toInt32 s3 = some (0, s3) := FF
        dsimp only
        refine ⟨_, ?_, (KFl.st (N := N) ht kx3 (f := 5) (p := pl) (by decide)).2⟩
        rw [FF, ob_some]
        dsimp only
        rw [if_pos rfl, if_pos (show aB (nI h) (gN s3 (t + 3)) from cs3.a (c := 1) (by decide) hh), show gE s3 (t + 3) (nI h).toNatClampNeg = nI pl from (cs3.g (c := 1) (by decide) hh).trans (((q3 h).1 1 (by decide)).trans hpl)]
        rfl
      | some B' =>
        rw [hbw] at FF
        obtain ⟨s4, w1, w2, w3, w4, w5⟩ := FF
        dsimp only
        have k4 : KX t n l w x X fs tge hs vs s4 M2 := k3.fr ht w5 (by simp) (by intro a z; simp only [List.mem_cons, List.not_mem_nil, or_false] at z; omega)
        have fg : FKb t s2 s4 := Fr.t0 (r3.mo (by simp) (by simp) (by simp) (by intro a z; simp only [List.mem_cons, List.not_mem_nil, or_false] at z ⊢; omega) (by simp)) (w5.mo (by simp) (by simp) (by simp) (by intro a z; simp only [List.mem_cons, List.not_mem_nil, or_false] at z ⊢; omega) (by simp))
        refine ⟨s4, M2, ?_, ⟨k4, w4, Fr.t0 q2.2.2 (FKb.kx fg)⟩, q3, r2.fr w5 (by simp) (by simp) (w5.2.2.2.1 65 (by simp)).1, w2, w3, T3.fr w5 (by simp) (by simp) (by simp), Fr.t0 (FKs.kb f12) fg⟩
        rw [w1, ob_some]
        dsimp only
        rw [if_neg (by decide)]
end KM2
