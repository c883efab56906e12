/-! the reference explores: a branch goes somewhere -/
/-- branches in the reference's tables -/
def RBr (σ : st_S) (B : Bn) : Prop := gI σ 66 38 = nI B.1 ∧ B.1 ≤ 4096 ∧ ∀ i, i < B.1 → gE σ 181 i = nI (B.2 i).1 ∧ gL σ 182 i = (B.2 i).2.1 ∧ gL σ 183 i = (B.2 i).2.2 ∧ (B.2 i).1 < 512
/-- commands in the reference's lists; W: how many branches -/
def RCm (σ : st_S) (K : Nat × (Nat → Nat) × (Nat → Nat)) (W : Nat) : Prop := Nf σ 175 K.1 (fun c => nI (K.2.1 c)) ∧ Nf σ 177 K.1 (fun c => nI (K.2.2 c)) ∧ Nf σ 179 K.1 (fun c => nI ((if c + 1 = K.1 then W else K.2.2 (c + 1)) - K.2.2 c))
/-- chances of the branches from the b0-th on, and one more -/
def Fqs (a b0 : Nat) (B : Bn) (v : Int64 × Int64) : Prop := 0 < a ∧ a < 1000000000 ∧ Fq a v ∧ ∀ i, b0 ≤ i → i < B.1 → Fq a (B.2 i).2 ∧ wt a (B.2 i).2 + wt a v ≤ a
section RS9
variable {N g n k : Nat} {σ σ0 σ' : st_S} {D : Nat → Nat → Int32} {w : List (Nat × Nat × Nat)} {l : List Int32} {X : Tx} {fa : Nat → Nat} {vs nx : Vl} {T : Tr} {a0 sb q V a b0 : Nat} {b : Tr × List Tr} {B : Bn} {P : Pst} {K : Nat × (Nat → Nat) × (Nat → Nat)} {v : Int64 × Int64} {I J Rr : List (Nat × Nat)} {A L : List Nat}
theorem RPt.fr (h : RPt σ V P) (fr : Fr 0 I J Rr A L σ σ') (h1 : (66, 29) ∉ I) (h2 : 171 ∉ A) : RPt σ' V P := by
  obtain ⟨p1, p0, p2, p3, p4⟩ := h
  obtain ⟨e1, e2⟩ := fr.2.2.2.1 171 h2
  exact ⟨(fr.1 _ _ h1).trans p1, p0, p2, e1.trans p3, fun k hk v hv => by rw [e2]; exact p4 k hk v hv⟩
theorem RBr.fr (h : RBr σ B) (fr : Fr 0 I J Rr A L σ σ') (h1 : (66, 38) ∉ I) (h2 : 181 ∉ A) (h3 : 182 ∉ L) (h4 : 183 ∉ L) : RBr σ' B := by
  obtain ⟨p1, p2, p3⟩ := h
  refine ⟨(fr.1 _ _ h1).trans p1, p2, fun i hi => ?_⟩
  rw [(fr.2.2.2.1 181 h2).2, fr.2.2.2.2.1 182 h3, fr.2.2.2.2.1 183 h4]
  exact p3 i hi
theorem RCm.fr {W : Nat} (h : RCm σ K W) (fr : Fr 0 I J Rr A L σ σ') (h1 : (175, 1) ∉ I ∧ (177, 1) ∉ I ∧ (179, 1) ∉ I) (h2 : 176 ∉ A ∧ 178 ∉ A ∧ 180 ∉ A) : RCm σ' K W := ⟨h.1.fr fr h1.1 h2.1, h.2.1.fr fr h1.2.1 h2.2.1, h.2.2.fr fr h1.2.2 h2.2.2⟩
/-- two chances become one -/
theorem F219 (hN : 200 < N) (x8 : gN σ 182 = 4096) (x9 : gN σ 183 = 4096) {i : Nat} (hi : i < 4096) (ha : 0 < a) (ha2 : a < 1000000000) {u : Int64 × Int64} (e1 : gL σ 182 i = u.1) (e2 : gL σ 183 i = u.2) (hu : Fq a u) (hv : Fq a v) (hs : wt a u + wt a v ≤ a) : F_219 N (nI i) v.1 v.2 σ = some (st_E (st_E σ 182 i (adq u v).1) 183 i (adq u v).2) := by
  obtain ⟨-, -, q1, q2, q3⟩ := adq_ok ha ha2 hu hv hs
  have cl : (nI i).toNatClampNeg = i := nI_clamp (by omega)
  have e1 : gL σ 182 (nI i).toNatClampNeg = u.1 := by rw [cl]; exact e1
  have e2 : gL σ 183 (nI i).toNatClampNeg = u.2 := by rw [cl]; exact e2
  unfold F_219
  rw [if_pos (by rw [x8]; exact aB_nI hi (by decide)), if_pos (by rw [x9]; exact aB_nI hi (by decide)), e1, e2, F196 (by omega) (by omega) q2, ob_some]
  dsimp only
  rw [if_pos q3, if_pos (by rw [x8]; exact aB_nI hi (by decide)), if_pos (by rw [x9]; exact aB_nI hi (by decide)), cl]
  rfl
/-- what a branch may change -/
abbrev FGo (σ σ' : st_S) : Prop := Fr 0 [(66, 16), (66, 17), (66, 23), (66, 29), (66, 38), (165, 1)] [] [] [166, 168, 171, 180, 181, 184] [163, 164, 169, 170, 182, 183] σ σ'
theorem FS.fgo (fr : FS σ σ') : FGo σ σ' := fr.mo (by intro a q; simp only [List.mem_cons, List.not_mem_nil, or_false] at q ⊢; rcases q with q | q | q | q <;> simp [q]) (by simp) (by simp) (by intro a q; simp only [List.mem_cons, List.not_mem_nil, or_false] at q ⊢; omega) (by intro a q; simp only [List.mem_cons, List.not_mem_nil, or_false] at q ⊢; omega)
theorem FGo.fx (fr : FGo σ σ') : FX σ σ' := fr.mo (by intro a q; simp only [List.mem_cons, List.not_mem_nil, or_false] at q ⊢; rcases q with q | q | q | q | q | q <;> simp [q]) (by simp) (by simp) (by intro a q; simp only [List.mem_cons, List.not_mem_nil, or_false] at q ⊢; omega) (by intro a q; simp only [List.mem_cons, List.not_mem_nil, or_false] at q ⊢; omega)
/-- a branch of the command that goes there is looked for -/
theorem L216m (hN : 200 < N) (hx : XLn σ) (hB : RBr σ B) {tg pl l7 : Nat} (htg : tg < 512) (hq : q < 8) (e5 : gL σ 185 q = v.1) (e6 : gL σ 186 q = v.2) (hF : Fqs a b0 B v) : ∀ (r i : Nat), i + r = B.1 → b0 ≤ i → match fbr B.2 tg r i with
    | some i' => b0 ≤ i' ∧ i' < B.1 ∧ ∀ f, L_216 N g (f + r) 187 (nI q) (nI pl) 0 0 (nI tg) (nI l7) (nI i) σ = some (st_E (st_E σ 182 i' (adq (B.2 i').2 v).1) 183 i' (adq (B.2 i').2 v).2)
    | none => ∀ f, L_216 N g (f + r) 187 (nI q) (nI pl) 0 0 (nI tg) (nI l7) (nI i) σ = L_216 N g f 187 (nI q) (nI pl) 0 0 (nI tg) (nI l7) (nI B.1) σ := by
  obtain ⟨x1, x2, x3, x4, x5, x6, x7, x8, x9, x10, x11, x12⟩ := hx
  obtain ⟨p1, p2, p3⟩ := hB
  obtain ⟨f1, f2, f3, f4⟩ := hF
  intro r
  induction r with
  | zero =>
    intro i hi _
    rw [Nat.add_zero] at hi
    subst hi
    exact fun f => rfl
  | succ r ih =>
    intro i hi hb
    obtain ⟨y1, y2, y3, y4⟩ := p3 i (by omega)
    unfold fbr
    by_cases c : (B.2 i).1 = tg
    · rw [if_pos c]
      refine ⟨hb, by omega, fun f => ?_⟩
      rw [← Nat.add_assoc]
      unfold L_216
      obtain ⟨w1, w2⟩ := f4 i hb (by omega)
      rw [if_neg (by decide), if_neg (by decide), p1, if_neg (nle_nI (by omega) (by omega)), if_pos (by rw [x7]; exact aB_nI (by omega) (by decide)), nI_clamp (by omega), y1, c, if_pos rfl, if_pos (by rw [x11]; exact aB_nI hq (by decide)), if_pos (by rw [x12]; exact aB_nI hq (by decide)), nI_clamp (by omega), e5, e6, F219 hN x8 x9 (by omega) f1 f2 y2 y3 w1 f3 w2, ob_some]
    · rw [if_neg c]
      have st : ∀ f, L_216 N g (f + 1) 187 (nI q) (nI pl) 0 0 (nI tg) (nI l7) (nI i) σ = L_216 N g f 187 (nI q) (nI pl) 0 0 (nI tg) (nI l7) (nI (i + 1)) σ := fun f => by
        conv => lhs; unfold L_216
        rw [if_neg (by decide), if_neg (by decide), p1, if_neg (nle_nI (by omega) (by omega)), if_pos (by rw [x7]; exact aB_nI (by omega) (by decide)), nI_clamp (by omega), y1, if_neg (nik (by omega) (by omega) c), nI_1]
      have I := ih (i + 1) (by omega) (by omega)
      cases hf : fbr B.2 tg r (i + 1) with
      | some i' =>
        rw [hf] at I
        exact ⟨by omega, I.2.1, fun f => by rw [← Nat.add_assoc, st, I.2.2]⟩
      | none =>
        rw [hf] at I
        have I : ∀ f, L_216 N g (f + r) 187 (nI q) (nI pl) 0 0 (nI tg) (nI l7) (nI (i + 1)) σ = L_216 N g f 187 (nI q) (nI pl) 0 0 (nI tg) (nI l7) (nI B.1) σ := I
        exact fun f => by rw [← Nat.add_assoc, st, I]
/-- the branch is put down -/
theorem L216p (G : XG N g l w X n σ0) (h0 : RX0 g l w X n D fa σ0 σ) (hB : RBr σ B) (hC : RCm σ K B.1) (hK : 1 ≤ K.1) (hb : K.2.2 (K.1 - 1) ≤ B.1) {tg pl : Nat} (htg : tg < 512) (hq : q < 8) (e5 : gL σ 185 q = v.1) (e6 : gL σ 186 q = v.2) (hF : Fqs a (K.2.2 (K.1 - 1)) B v) {f0 : Nat} (hf0 : 5000 < f0) : match xbw (K.2.2 (K.1 - 1)) B tg v with
    | none => ∃ σ', L_216 N g f0 187 (nI q) (nI pl) 0 0 (nI tg) (nI (K.1 - 1)) (nI (K.2.2 (K.1 - 1))) σ = some σ' ∧ XFl g l w X n D fa σ0 (5, pl) σ'
    | some B' => ∃ σ', L_216 N g f0 187 (nI q) (nI pl) 0 0 (nI tg) (nI (K.1 - 1)) (nI (K.2.2 (K.1 - 1))) σ = some σ' ∧ RBr σ' B' ∧ RCm σ' K B'.1 ∧ Fr 0 [(66, 38)] [] [] [180, 181] [182, 183] σ σ' ∧ gN σ' = gN σ := by
  have hN : 1000000 < N := G.2.1
  have hx := h0.2.2.1
  have M := L216m (N := N) (g := g) (pl := pl) (l7 := K.1 - 1) (by omega) hx hB htg hq e5 e6 hF (B.1 - K.2.2 (K.1 - 1)) (K.2.2 (K.1 - 1)) (by omega) (Nat.le_refl _)
  obtain ⟨x1, x2, x3, x4, x5, x6, x7, x8, x9, x10, x11, x12⟩ := hx
  obtain ⟨p1, p2, p3⟩ := id hB
  unfold xbw
  cases hf : fbr B.2 tg (B.1 - K.2.2 (K.1 - 1)) (K.2.2 (K.1 - 1)) with
  | some i =>
    rw [hf] at M
    obtain ⟨m1, m2, m3⟩ := M
    dsimp only
    obtain ⟨s', es⟩ : ∃ s', st_E (st_E σ 182 i (adq (B.2 i).2 v).1) 183 i (adq (B.2 i).2 v).2 = s' := ⟨_, rfl⟩
    have fr : Fr 0 [(66, 38)] [] [] [180, 181] [182, 183] σ s' := by rw [← es]; exact Fr.t0 (Fr.E _ _ _ (by simp)) (Fr.E _ _ _ (by simp))
    have fr' : Fr 0 [] [] [] [] [182, 183] σ s' := by rw [← es]; exact Fr.t0 (Fr.E _ _ _ (by simp)) (Fr.E _ _ _ (by simp))
    refine ⟨s', ?_, ⟨(fr'.1 _ _ (by simp)).trans p1, p2, fun j hj => ?_⟩, hC.fr fr' (by simp) (by simp), fr, by rw [← es]; rfl⟩
    · have := m3 (f0 - (B.1 - K.2.2 (K.1 - 1)))
      rw [show f0 - (B.1 - K.2.2 (K.1 - 1)) + (B.1 - K.2.2 (K.1 - 1)) = f0 by omega, es] at this
      exact this
    · have hj : j < B.1 := hj
      show gE s' 181 j = nI (upv B.2 i (tg, adq (B.2 i).2 v) j).1 ∧ gL s' 182 j = (upv B.2 i (tg, adq (B.2 i).2 v) j).2.1 ∧ gL s' 183 j = (upv B.2 i (tg, adq (B.2 i).2 v) j).2.2 ∧ (upv B.2 i (tg, adq (B.2 i).2 v) j).1 < 512
      obtain ⟨y1, y2, y3, y4⟩ := p3 j hj
      rw [(fr'.2.2.2.1 181 (by simp)).2]
      by_cases c : j = i
      · subst c
        rw [upv_s]
        have e := fbr_at hf
        refine ⟨?_, ?_, ?_, htg⟩
        · show gE σ 181 j = nI tg
          rw [← e]
          exact y1
        · rw [← es, gL_E, if_neg (by omega), gL_E, if_pos ⟨rfl, rfl⟩]
        · rw [← es, gL_E, if_pos ⟨rfl, rfl⟩]
      · rw [upv_o _ _ c]
        refine ⟨y1, ?_, ?_, y4⟩
        · rw [← es, gL_E, if_neg (by omega), gL_E, if_neg (by omega)]; exact y2
        · rw [← es, gL_E, if_neg (by omega), gL_E, if_neg (by omega)]; exact y3
  | none =>
    rw [hf] at M
    have M : ∀ f, L_216 N g (f + (B.1 - K.2.2 (K.1 - 1))) 187 (nI q) (nI pl) 0 0 (nI tg) (nI (K.1 - 1)) (nI (K.2.2 (K.1 - 1))) σ = L_216 N g f 187 (nI q) (nI pl) 0 0 (nI tg) (nI (K.1 - 1)) (nI B.1) σ := M
    have e0 : L_216 N g f0 187 (nI q) (nI pl) 0 0 (nI tg) (nI (K.1 - 1)) (nI (K.2.2 (K.1 - 1))) σ = L_216 N g (f0 - (B.1 - K.2.2 (K.1 - 1)) - 1 + 1) 187 (nI q) (nI pl) 0 0 (nI tg) (nI (K.1 - 1)) (nI B.1) σ := by
      have := M (f0 - (B.1 - K.2.2 (K.1 - 1)) - 1 + 1)
      rw [show f0 - (B.1 - K.2.2 (K.1 - 1)) - 1 + 1 + (B.1 - K.2.2 (K.1 - 1)) = f0 by omega] at this
      exact this
    rw [e0]
    dsimp only
    by_cases c : B.1 = 4096
    · rw [if_pos c]
      obtain ⟨s', z1, z2, z3⟩ := XFl.st (N := N) G.1 h0 5 pl (by decide)
      refine ⟨s', ?_, z2⟩
      unfold L_216
      rw [if_neg (by decide), if_neg (by decide), p1, if_pos (Int32.le_refl _), c, if_pos (by decide)]
      have z1 : F_165 N 5 (nI pl) σ = some s' := z1
      rw [z1, ob_some]
    · rw [if_neg c]
      dsimp only
      obtain ⟨c1, c2, c3⟩ := hC
      obtain ⟨d1, d2, d3, d4, d5⟩ := id c3
      have d2' : K.1 ≤ gN σ 180 := d2
      have d4' : gN σ 180 ≤ 40000 := d4
      have d5' := d5 (K.1 - 1) (by omega)
      dsimp only at d5'
      rw [if_pos (by omega)] at d5'
      obtain ⟨s', es⟩ : ∃ s', st_e (st_i (st_E (st_E (st_e σ 181 B.1 (nI tg)) 182 B.1 v.1) 183 B.1 v.2) 66 38 (nI (B.1 + 1))) 180 (K.1 - 1) (nI (B.1 - K.2.2 (K.1 - 1) + 1)) = s' := ⟨_, rfl⟩
      have fr : Fr 0 [(66, 38)] [] [] [180, 181] [182, 183] σ s' := by rw [← es]; exact Fr.t0 (Fr.e _ _ _ (by simp)) (Fr.t0 (Fr.E _ _ _ (by simp)) (Fr.t0 (Fr.E _ _ _ (by simp)) (Fr.t0 (Fr.i _ _ (by simp)) (Fr.e _ _ _ (by simp)))))
      have n0 : gN s' = gN σ := by rw [← es]; rfl
      refine ⟨s', ?_, ⟨by rw [← es]; rfl, by show B.1 + 1 ≤ 4096; omega, fun j hj => ?_⟩, ⟨c1.fr fr (by decide) (by decide), c2.fr fr (by decide) (by decide), ?_⟩, fr, n0⟩
      · unfold L_216
        rw [if_neg (by decide), if_neg (by decide), p1, if_pos (Int32.le_refl _), if_neg (show ¬ nI B.1 = 4096 from nik (m := 4096) (by omega) (by decide) c), if_pos (by rw [x7]; exact aB_nI (by omega) (by decide)), if_pos (by rw [x11]; exact aB_nI hq (by decide)), if_pos (by rw [x8]; exact aB_nI (by omega) (by decide)), if_pos (by rw [x12]; exact aB_nI hq (by decide)), if_pos (by rw [x9]; exact aB_nI (by omega) (by decide)), if_pos (aB_nI (by omega) (by omega)), nI_clamp (by omega), nI_clamp (by omega), nI_clamp (by omega), e5, e6, d5', nI_1, nI_1, es]
      · have hj : j < B.1 + 1 := hj
        rw [← es]
        show st_u (st_u (gE σ) 181 B.1 (nI tg)) 180 (K.1 - 1) (nI (B.1 - K.2.2 (K.1 - 1) + 1)) 181 j = nI (upv B.2 B.1 (tg, v) j).1 ∧ st_u (st_u (gL σ) 182 B.1 v.1) 183 B.1 v.2 182 j = (upv B.2 B.1 (tg, v) j).2.1 ∧ st_u (st_u (gL σ) 182 B.1 v.1) 183 B.1 v.2 183 j = (upv B.2 B.1 (tg, v) j).2.2 ∧ (upv B.2 B.1 (tg, v) j).1 < 512
        rw [st_u_a _ _ _ _ (show (181 : Nat) ≠ 180 by decide), st_u_a _ _ _ _ (show (182 : Nat) ≠ 183 by decide)]
        by_cases cj : j = B.1
        · subst cj
          rw [upv_s, st_u_s, st_u_s, st_u_s]
          exact ⟨rfl, rfl, rfl, htg⟩
        · rw [upv_o _ _ cj, st_u_k _ _ _ _ cj, st_u_k _ _ _ _ cj, st_u_k _ _ _ _ cj, st_u_a _ _ _ _ (show (183 : Nat) ≠ 182 by decide)]
          exact p3 j (by omega)
      · refine ⟨(fr.1 179 1 (by decide)).trans d1, by rw [n0]; exact d2, by rw [n0]; exact d3, by rw [n0]; exact d4, fun i hi => ?_⟩
        rw [← es]
        show st_u (st_u (gE σ) 181 B.1 (nI tg)) 180 (K.1 - 1) (nI (B.1 - K.2.2 (K.1 - 1) + 1)) 180 i = nI ((if i + 1 = K.1 then B.1 + 1 else K.2.2 (i + 1)) - K.2.2 i)
        by_cases ci : i = K.1 - 1
        · subst ci
          rw [st_u_s, if_pos (by omega), show B.1 + 1 - K.2.2 (K.1 - 1) = B.1 - K.2.2 (K.1 - 1) + 1 by omega]
        · rw [st_u_k _ _ _ _ ci, st_u_a _ _ _ _ (show (180 : Nat) ≠ 181 by decide), if_neg (by omega)]
          have := d5 i hi
          dsimp only at this
          rw [if_neg (by omega)] at this
          exact this
end RS9
