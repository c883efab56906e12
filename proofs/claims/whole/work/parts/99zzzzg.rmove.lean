/-! the reference explores: a branch -/
section RSA
variable {N g n k : Nat} {σ σ0 σ' : st_S} {D : Nat → Nat → Int32} {w : List (Nat × Nat × Nat)} {l : List Int32} {X : Tx} {fa : Nat → Nat} {vs nx : Vl} {T : Tr} {c sb q a pl : Nat} {b : Tr × List Tr} {s : Pst × Bn} {K : Nat × (Nat → Nat) × (Nat → Nat)} {v : Int64 × Int64}
theorem mul8 (k v : Nat) : (8 * nI k) + nI v = nI (8 * k + v) := by
  show nI 8 * nI k + nI v = _
  rw [pk_mul, nI_add]
theorem RXs.eq (hg : g = 79 ∨ g = 115) (h : RXs g l w X n D fa vs σ0 σ) (fr : FX σ σ') (e : gN σ' = gN σ) (h1 : gI σ' 165 1 = gI σ 165 1) (h2 : gE σ' 166 = gE σ 166) (h3 : gI σ' 66 16 = gI σ 66 16) (h4 : gE σ' 167 = gE σ 167) (h5 : gE σ' 168 = gE σ 168) (h6 : gL σ' 169 = gL σ 169) (h7 : gL σ' 170 = gL σ 170) : RXs g l w X n D fa vs σ0 σ' := by
  obtain ⟨a1, a2, a3, a4, a5⟩ := h
  refine ⟨a1.eq hg fr e h1 h2, h3.trans a2, by rw [h4]; exact a3, by rw [e]; exact a4, ?_⟩
  rw [h5, h6, h7]
  exact a5
/-- a branch that may be taken -/
theorem F216 (G : XG N g l w X n σ0) (hv : Vv X.1 vs) (h : RXs g l w X n D fa vs σ0 σ) (hb : BX g l w X n D fa (8 * c + q) sb b) (hP : RPt σ (cnt X.1 3) s.1) (hB : RBr σ s.2) (hC : RCm σ K s.2.1) (hK : 1 ≤ K.1) (hbW : K.2.2 (K.1 - 1) ≤ s.2.1) (hq : q < 8) (e5 : gL σ 185 q = v.1) (e6 : gL σ 186 q = v.2) (hF : Fqs a (K.2.2 (K.1 - 1)) s.2 v) : match xb1 l w X.1 (cnt X.1 3) vs pl (K.2.2 (K.1 - 1)) b v s with
    | .inl e => ∃ σ', F_216 N g (nI c) (nI q) (nI pl) σ = some σ' ∧ XFl g l w X n D fa σ0 e σ'
    | .inr s' => ∃ σ', F_216 N g (nI c) (nI q) (nI pl) σ = some σ' ∧ RXs g l w X n D fa vs σ0 σ' ∧ RPt σ' (cnt X.1 3) s'.1 ∧ RBr σ' s'.2 ∧ RCm σ' K s'.2.1 ∧ FGo σ σ' := by
  have hg := G.1
  have hN : 1000000 < N := G.2.1
  obtain ⟨h0, hf, h7, hm⟩ := id h
  obtain ⟨⟨t1, t2, t3, t4, t5, t6, t7, t8⟩, sk, hx, -⟩ := id h0
  have hxl := hx
  obtain ⟨x1, x2, x3, x4, x5, x6, x7, x8, x9, x10, x11, x12⟩ := hx
  have hV : cnt X.1 3 ≤ 12 := t7.2.2.2.2.1
  have e12 : gI σ g 12 = nI (cnt X.1 3) := t7.2.1
  obtain ⟨b1, b2, b3⟩ := id hb
  have nsl : sb + b.2.length ≤ 100000 := by
    have := t8 (g + 31) (by omega)
    omega
  obtain ⟨s1, c1, c2, c3, c4, -⟩ := L216c (N := N) (g := g) (l2 := nI q) (l3 := nI pl) (l4 := nI (8 * c + q)) hV (cnt X.1 3) 0 σ (by omega) e12 x1 x10
  have fS1 : FS σ s1 := c2.mo (by simp) (by simp) (by simp) (by simp) (by simp)
  have r1 : RXs g l w X n D fa vs σ0 s1 := h.eq hg (FS.fx fS1) c3 (c2.1 _ _ (by simp)) (c2.2.2.2.1 166 (by decide)).2 (c2.1 _ _ (by simp)) (c2.2.2.2.1 167 (by decide)).2 (c2.2.2.2.1 168 (by decide)).2 (c2.2.2.2.2.1 169 (by simp)) (c2.2.2.2.2.1 170 (by simp))
  have v1 : ∀ u, u < cnt X.1 3 → gE s1 184 u = vs u := fun u hu => by rw [c4 u (Nat.zero_le _) hu]; exact h7 u hu
  obtain ⟨⟨y1, y2, y3, y4⟩, y5⟩ := b3 s1 r1.1.1
  have l28 : gN s1 (g + 28) = 480 := r1.1.1.2.2.2.1.2.2.2.1 _ (by omega) (by omega)
  have E1 : F_216 N g (nI c) (nI q) (nI pl) σ = L_216 N g (N - cnt X.1 3 - 1) 59 (nI q) (nI pl) (nI (8 * c + q)) (nI sb) (nI (sb + 0)) 0 0 s1 := by
    unfold F_216
    rw [mul8]
    have := c1 (N - cnt X.1 3 - 1 + 1)
    rw [show N - cnt X.1 3 - 1 + 1 + cnt X.1 3 = N by omega] at this
    refine (show L_216 N g N 11 (nI q) (nI pl) (nI (8 * c + q)) 0 0 0 0 σ = _ from this).trans ?_
    conv => lhs; unfold L_216
    rw [if_pos rfl, c2.1 g 12 (by simp), e12, if_pos (Int32.le_refl _), if_pos (by rw [l28]; exact aB_nI b1 (by decide)), nI_clamp (by omega), y3]
    rfl
  have Q := L216s (l2 := nI q) (l3 := nI pl) G hv hb b.2.reverse 0 s1 vs rfl (by rw [List.length_reverse]; omega) r1 v1
  rw [E1]
  unfold xb1
  rw [List.length_reverse] at Q
  cases hxs : xst l w X.1 vs b.2.reverse vs with
  | inl e =>
    rw [hxs] at Q
    rw [sbd_l]
    obtain ⟨s2, q1, q2⟩ := Q
    refine ⟨s2, ?_, q2⟩
    have := q1 (N - cnt X.1 3 - 1 - b.2.length - 1)
    rw [show N - cnt X.1 3 - 1 - b.2.length - 1 + b.2.length + 1 = N - cnt X.1 3 - 1 by omega] at this
    exact this
  | inr nx =>
    rw [hxs] at Q
    rw [sbd_r]
    obtain ⟨s2, q1, q2, q3, q4⟩ := Q
    have E2 : L_216 N g (N - cnt X.1 3 - 1) 59 (nI q) (nI pl) (nI (8 * c + q)) (nI sb) (nI (sb + 0)) 0 0 s1 = L_216 N g (N - cnt X.1 3 - 1 - b.2.length - 1 + 1) 59 (nI q) (nI pl) (nI (8 * c + q)) (nI sb) (nI (sb + b.2.length)) 0 0 s2 := by
      have := q1 (N - cnt X.1 3 - 1 - b.2.length - 1 + 1)
      rw [show N - cnt X.1 3 - 1 - b.2.length - 1 + 1 + b.2.length = N - cnt X.1 3 - 1 by omega] at this
      exact this
    rw [E2]
    have f12 : FS σ s2 := Fr.t0 fS1 q4
    obtain ⟨z0, zf, z7, zm⟩ := id q2
    obtain ⟨⟨w1, w2, w3, w4⟩, w5⟩ := b3 s2 z0.1
    have l29 : gN s2 (g + 29) = 480 := z0.1.2.2.2.1.2.2.2.1 _ (by omega) (by omega)
    have l27 : gN s2 (g + 27) = 480 := z0.1.2.2.2.1.2.2.2.1 _ (by omega) (by omega)
    have P2 : RPt s2 (cnt X.1 3) s.1 := hP.fr f12 (by simp) (by simp)
    have B2 : RBr s2 s.2 := hB.fr f12 (by simp) (by simp) (by simp) (by simp)
    have C2 : RCm s2 K s.2.1 := hC.fr f12 (by simp) (by simp)
    have e12' : gI s2 g 12 = nI (cnt X.1 3) := z0.1.2.2.2.2.2.2.1.2.1
    have St : L_216 N g (N - cnt X.1 3 - 1 - b.2.length - 1 + 1) 59 (nI q) (nI pl) (nI (8 * c + q)) (nI sb) (nI (sb + b.2.length)) 0 0 s2 = (F_218 N g s2).bind fun p_8 => if 0 ≤ p_8.1 then (N_139 N 177 ((gI p_8.2 177 1) - 1) (p_8.2)).bind fun p_10 => L_216 N g (N - cnt X.1 3 - 1 - b.2.length - 1) 187 (nI q) (nI pl) 0 0 p_8.1 ((gI p_8.2 177 1) - 1) p_10.1 (p_10.2) else if aB (nI (8 * c + q)) (gN p_8.2 (g + 27)) then (F_165 N 5 (gE (p_8.2) (g + 27) (nI (8 * c + q)).toNatClampNeg) (p_8.2)).bind fun p_12 => some (p_12) else none := by
      conv => lhs; unfold L_216
      rw [if_neg (by decide), if_pos rfl, if_pos (by rw [l29]; exact aB_nI b1 (by decide)), show gE s2 (g + 29) (nI (8 * c + q)).toNatClampNeg = nI b.2.length by rw [nI_clamp (by omega)]; exact w5, nI_add, if_pos (Int32.le_refl _), if_pos zf]
    rw [St]
    have F := F218 (N := N) (by omega) hV e12' (by omega) P2 (by rw [z0.2.2.1.2.2.2.2.2.2.2.2.2.1]) q3
    unfold xb2
    cases hgo : xgo (cnt X.1 3) s.1 nx with
    | none =>
      rw [hgo] at F
      have F : F_218 N g s2 = some (-1, s2) := F
      dsimp only
      obtain ⟨s3, u1, u2, u3⟩ := XFl.st (N := N) hg z0 5 (kP w (bw b.1)) (by decide)
      refine ⟨s3, ?_, u2⟩
      rw [F, ob_some]
      dsimp only
      rw [if_neg (by decide), if_pos (by rw [l27]; exact aB_nI b1 (by decide)), nI_clamp (by omega), w2]
      have u1 : F_165 N 5 (nI (kP w (bw b.1))) s2 = some s3 := u1
      rw [u1, ob_some]
    | some p =>
      rw [hgo] at F
      obtain ⟨f1, s3, f2, f3, f4, f5⟩ := F
      dsimp only
      have fg3 : FGo s2 s3 := f4.mo (by simp) (by simp) (by simp) (by simp) (by simp)
      have r3 : RXs g l w X n D fa vs σ0 s3 := q2.eq hg (FGo.fx fg3) f5 (f4.1 _ _ (by simp)) (f4.2.2.2.1 166 (by decide)).2 (f4.1 _ _ (by simp)) (f4.2.2.2.1 167 (by decide)).2 (f4.2.2.2.1 168 (by decide)).2 (f4.2.2.2.2.1 169 (by simp)) (f4.2.2.2.2.1 170 (by simp))
      have B3 : RBr s3 s.2 := B2.fr f4 (by simp) (by simp) (by simp) (by simp)
      have C3 : RCm s3 K s.2.1 := C2.fr f4 (by simp) (by simp)
      have e5' : gL s3 185 q = v.1 := by rw [f4.2.2.2.2.1 185 (by simp), f12.2.2.2.2.1 185 (by simp)]; exact e5
      have e6' : gL s3 186 q = v.2 := by rw [f4.2.2.2.2.1 186 (by simp), f12.2.2.2.2.1 186 (by simp)]; exact e6
      have i177 : gI s3 177 1 = nI K.1 := C3.2.1.1
      have K40 : K.1 ≤ 40000 := by
        have q2 := C3.2.1.2.1
        have q3 := C3.2.1.2.2.2.1
        omega
      have k1 : nI K.1 - 1 = nI (K.1 - 1) := nI_sub (a := K.1) (b := 1) hK
      have N1 : N_139 N 177 (nI (K.1 - 1)) s3 = some (nI (K.2.2 (K.1 - 1)), s3) := nf_at C3.2.1 (by omega)
      have M := L216p (pl := pl) G r3.1 B3 C3 hK hbW f1 hq e5' e6' hF (f0 := N - cnt X.1 3 - 1 - b.2.length - 1) (by omega)
      rw [f2, ob_some]
      dsimp only
      rw [if_pos (show (0 : Int32) ≤ nI p.1 from le_nI (a := 0) (Nat.zero_le _) (by omega)), i177, k1, N1, ob_some]
      dsimp only
      cases hbw : xbw (K.2.2 (K.1 - 1)) s.2 p.1 v with
      | none =>
        rw [hbw] at M
        exact M
      | some B' =>
        rw [hbw] at M
        obtain ⟨s4, m1, m2, m3, m4, m5⟩ := M
        have fg4 : FGo s3 s4 := m4.mo (by simp) (by simp) (by simp) (by intro a q; simp only [List.mem_cons, List.not_mem_nil, or_false] at q ⊢; omega) (by intro a q; simp only [List.mem_cons, List.not_mem_nil, or_false] at q ⊢; omega)
        refine ⟨s4, m1, r3.eq hg (FGo.fx fg4) m5 (m4.1 _ _ (by simp)) (m4.2.2.2.1 166 (by decide)).2 (m4.1 _ _ (by simp)) (m4.2.2.2.1 167 (by decide)).2 (m4.2.2.2.1 168 (by decide)).2 (m4.2.2.2.2.1 169 (by simp)) (m4.2.2.2.2.1 170 (by simp)), f3.fr m4 (by simp) (by simp), m2, m3, Fr.t0 (FS.fgo f12) (Fr.t0 fg3 fg4)⟩
end RSA
