/-! the reference explores: a state -/
/-- states' rows: owners, first commands, how many; k: the state that is looked at -/
def RSt (σ : st_S) (k : Nat) (ow cf : Nat → Nat) (C : Nat) : Prop := ∀ j, j ≤ k → gE σ 172 j = nI (ow j) ∧ gE σ 173 j = nI (cf j) ∧ gE σ 174 j = nI ((if j = k then C else cf (j + 1)) - cf j)
/-- the graph in the reference -/
def RGh (σ : st_S) (V k : Nat) (G : Gsh) : Prop := RPt σ V G.1 ∧ RSt σ k G.2.1 G.2.2.1 G.2.2.2.1.1 ∧ RCm σ G.2.2.2.1 G.2.2.2.2.1 ∧ RBr σ G.2.2.2.2
section RSD
variable {N g n k : Nat} {σ σ0 σ' : st_S} {D : Nat → Nat → Int32} {w : List (Nat × Nat × Nat)} {l : List Int32} {X : Tx} {fa : Nat → Nat} {vs nx : Vl} {T : Tr} {i sc q pl : Nat} {c : It} {v : Int64 × Int64} {a : Int64} {G : Gsh} {I J Rr : List (Nat × Nat)} {A L : List Nat}
theorem RSt.fr {ow cf : Nat → Nat} {C : Nat} (h : RSt σ k ow cf C) (fr : Fr 0 I J Rr A L σ σ') (h1 : 172 ∉ A) (h2 : 173 ∉ A) (h3 : 174 ∉ A) : RSt σ' k ow cf C := fun j hj => by
  rw [(fr.2.2.2.1 172 h1).2, (fr.2.2.2.1 173 h2).2, (fr.2.2.2.1 174 h3).2]
  exact h j hj
/-- a list grows -/
theorem RXs.pu (H : XG N g l w X n σ0) (h : RXs g l w X n D fa vs σ0 σ) {o m : Nat} (ho : o = 175 ∨ o = 177 ∨ o = 179) {f : Nat → Int32} (hf : Nf σ o m f) (hm : m ≤ 20000) (v : Int32) : ∃ σ', N_133 N o v σ = some σ' ∧ RXs g l w X n D fa vs σ0 σ' ∧ Nf σ' o (m + 1) (fun i => if i = m then v else f i) ∧ Fr 0 [(o, 1)] [] [] [o + 1] [] σ σ' := by
  have hq := h.1.gc H.2.2.2.2
  obtain ⟨s, e1, e2, e3⟩ := nf_add (N := N) (v := v) (by rcases ho with rfl | rfl | rfl <;> decide) hf (by omega) (by omega)
  obtain ⟨h0, hf', h7, hm'⟩ := h
  obtain ⟨b1, ⟨M, b2⟩, b3, b4, b5⟩ := id h0
  have eq : ∀ a, a ≠ o + 1 → gN s a = gN σ a ∧ gE s a = gE σ a := fun a ha => e3.2.2.2.1 a (by simpa using ha)
  have ei : ∀ a k, a ≠ o → gI s a k = gI σ a k := fun a k ha => e3.1 a k (by simp only [List.mem_cons, List.not_mem_nil, or_false, Prod.mk.injEq]; omega)
  have n40 := e2.2.2.2.1
  refine ⟨s, e1, ⟨h0.fr H.1 (e3.mo (by intro a q; simp only [List.mem_cons, List.not_mem_nil, or_false] at q ⊢; rcases ho with rfl | rfl | rfl <;> simp [q]) (by simp) (by simp) (by intro a q; simp only [List.mem_cons, List.not_mem_nil, or_false] at q ⊢; omega) (by simp)) ⟨M, b2.fr e3 (by simp only [List.mem_cons, List.not_mem_nil, or_false, Prod.mk.injEq]; omega) (by simp only [List.mem_cons, List.not_mem_nil, or_false]; omega)⟩ ?_ ⟨(eq _ (by omega)).1, (eq _ (by omega)).1, (eq _ (by omega)).1, (eq _ (by omega)).1⟩ ?_, (ei 66 16 (by omega)).trans hf', fun u hu => by rw [(eq 167 (by omega)).2]; exact h7 u hu, hm'.fr e3 (by simp only [List.mem_cons, List.not_mem_nil, or_false]; omega) (by simp) (by simp)⟩, e2, e3⟩
  · obtain ⟨a1, a2, a3, a4, a5, a6, a7, a8, a9, a10, a11, a12⟩ := b3
    exact ⟨(eq _ (by omega)).1.trans a1, (eq _ (by omega)).1.trans a2, (eq _ (by omega)).1.trans a3, (eq _ (by omega)).1.trans a4, (eq _ (by omega)).1.trans a5, (eq _ (by omega)).1.trans a6, (eq _ (by omega)).1.trans a7, (eq _ (by omega)).1.trans a8, (eq _ (by omega)).1.trans a9, (eq _ (by omega)).1.trans a10, (eq _ (by omega)).1.trans a11, (eq _ (by omega)).1.trans a12⟩
  · intro a ha
    by_cases ca : a = o + 1
    · rw [ca]; exact ⟨e2.2.2.1, n40⟩
    · rw [(eq a ca).1]
      exact b5 a ha
/-- what a command may change -/
abbrev FCo (σ σ' : st_S) : Prop := Fr 0 [(66, 16), (66, 17), (66, 23), (66, 29), (66, 38), (165, 1), (175, 1), (177, 1), (179, 1)] [] [] [166, 168, 171, 172, 174, 176, 178, 180, 181, 184] [163, 164, 169, 170, 182, 183, 185, 186] σ σ'
/-- a command that may be taken -/
theorem F214 (H : XG N g l w X n σ0) (hvs : Vr X.1 vs) (hv : Vv X.1 vs) (hc : CXr g l w X n D fa i sc c) (hcv : CmV l w X.1 c) (h : RXs g l w X n D fa vs σ0 σ) (hG : RGh σ (cnt X.1 3) k G) (hI : GI X.1 k G) : match xcm l w X.1 (cnt X.1 3) vs k i c G with
    | .inl e => ∃ σ', F_214 N g (nI k) (nI i) σ = some σ' ∧ XFl g l w X n D fa σ0 e σ'
    | .inr G' => ∃ σ', F_214 N g (nI k) (nI i) σ = some σ' ∧ RXs g l w X n D fa vs σ0 σ' ∧ RGh σ' (cnt X.1 3) k G' := by
  have hg := H.1
  have hN : 1000000 < N := H.2.1
  obtain ⟨P, ow, cf, ⟨C, cm, bf⟩, B⟩ := G
  obtain ⟨hP, hS, hC, hB⟩ := hG
  have hP : RPt σ (cnt X.1 3) P := hP
  have hS : RSt σ k ow cf C := hS
  have hC : RCm σ (C, cm, bf) B.1 := hC
  have hB : RBr σ B := hB
  obtain ⟨g1, g2, g3, g4, g5, g6, g7, g8, g9⟩ := hI
  have g1 : k < P.1 := g1
  have g2 : P.1 ≤ 512 := g2
  have g4 : C ≤ B.1 := g4
  have g5 : B.1 ≤ 4096 := g5
  have g6 : ∀ j, j ≤ k → ow j ≤ 3 ∧ cf j ≤ C := g6
  obtain ⟨i60, b8, bs, hco⟩ := id hc
  obtain ⟨o22, o23, -, o25, -⟩ := hco σ h.1.1
  have l22 : gN σ (g + 22) = 60 := h.1.1.2.2.2.1.2.2.1 _ (by omega) (by omega)
  have l23 : gN σ (g + 23) = 60 := h.1.1.2.2.2.1.2.2.1 _ (by omega) (by omega)
  obtain ⟨x1, x2, x3, x4, x5, x6, x7, x8, x9, x10, x11, x12⟩ := id h.1.2.2.1
  have ci : (nI i).toNatClampNeg = i := nI_clamp (by omega)
  have ck : (nI k).toNatClampNeg = k := nI_clamp (by omega)
  have pw : (if gE σ (g + 22) i = 0 then 1 else 2 : Int32) = nI (pwo w c) := by
    rw [o22]
    unfold pwo
    by_cases c8 : kK w c.2.1 = 8
    · rw [if_pos c8, if_pos c8, if_neg (by decide)]; rfl
    · rw [if_neg c8, if_neg c8, if_pos rfl]; rfl
  obtain ⟨s1, es1⟩ : ∃ s1, st_e σ 172 k (nI (pwo w c)) = s1 := ⟨_, rfl⟩
  have f1 : Fr 0 [] [] [] [172] [] σ s1 := by rw [← es1]; exact Fr.e _ _ _ (by simp)
  have n1 : gN s1 = gN σ := by rw [← es1]; rfl
  have st : F_214 N g (nI k) (nI i) σ = if ow k = 0 ∨ ow k = pwo w c then ((F_215 N g (nI i) (nI (kP w c.2.1)) s1).bind fun p => if gI p.2 66 16 = 0 then L_214 N g N 87 (nI k) (nI i) (nI (kP w c.2.1)) p.1 0 0 p.2 else some p.2) else (F_165 N 13 (nI (kP w c.2.1)) σ).bind fun r => some r := by
    unfold F_214
    rw [if_pos (by rw [l22]; exact aB_nI i60 (by decide)), if_pos (by rw [l23]; exact aB_nI i60 (by decide)), if_pos (by rw [x4]; exact aB_nI (by omega) (by decide)), ci, ck, pw, o23, (hS k (Nat.le_refl _)).1, es1]
    have o3 := (g6 k (Nat.le_refl _)).1
    by_cases c0 : ow k = 0
    · rw [if_pos (by rw [c0]; rfl), if_pos (Or.inl c0)]
    · rw [if_neg (show ¬ nI (ow k) = 0 from nik (m := 0) (by omega) (by decide) c0)]
      by_cases c1 : ow k = pwo w c
      · rw [if_pos (by rw [c1]), if_pos (Or.inr c1)]
      · rw [if_neg (nik (by omega) (by have := (pwo_le w c).1; omega) c1), if_neg (fun z => z.elim c0 c1)]
  rw [st]
  have r1 : RXs g l w X n D fa vs σ0 s1 := h.eq hg (f1.mo (by simp) (by simp) (by simp) (by simp) (by simp)) n1 (f1.1 _ _ (by simp)) (f1.2.2.2.1 166 (by decide)).2 (f1.1 _ _ (by simp)) (f1.2.2.2.1 167 (by decide)).2 (f1.2.2.2.1 168 (by decide)).2 (f1.2.2.2.2.1 169 (by simp)) (f1.2.2.2.2.1 170 (by simp))
  unfold xcm
  by_cases co : ow k = 0 ∨ ow k = pwo w c
  · rw [if_pos co, if_pos (show (P, ow, cf, (C, cm, bf), B).2.1 k = 0 ∨ (P, ow, cf, (C, cm, bf), B).2.1 k = pwo w c from co)]
    have K := F215 (pl := kP w c.2.1) H hv hc r1
    cases hx : xch l w X.1 vs (bsr c.2.2).reverse with
    | inl e =>
      rw [hx] at K
      rw [sbd_l]
      obtain ⟨z, s2, k1, k2⟩ := K
      refine ⟨s2, ?_, k2⟩
      rw [k1, ob_some]
      dsimp only
      rw [if_neg k2.ne]
    | inr Ls =>
      rw [hx] at K
      rw [sbd_r]
      obtain ⟨kl, kc, K⟩ := K
      cases hy : xlc (kP w c.2.1) Ls 1 with
      | inl e =>
        rw [hy] at K
        rw [sbd_l]
        obtain ⟨z, s2, k1, k2⟩ := K
        refine ⟨s2, ?_, k2⟩
        rw [k1, ob_some]
        dsimp only
        rw [if_neg k2.ne]
      | inr A =>
        rw [hy] at K
        rw [sbd_r]
        obtain ⟨s2, k1, k2, k3, k4⟩ := K
        obtain ⟨-, -, -, o25', -⟩ := hco s2 k2.1.1
        have l25 : gN s2 (g + 25) = 60 := k2.1.1.2.2.2.1.2.2.1 _ (by omega) (by omega)
        have e1 : L_214 N g N 87 (nI k) (nI i) (nI (kP w c.2.1)) A 0 0 s2 = L_214 N g (N - Ls.length - 1 + 1) 87 (nI k) (nI i) (nI (kP w c.2.1)) A (xsm A Ls 0) (nI (bsr c.2.2).length) s2 := by
          have := L214s (N := N) (k := k) (pl := kP w c.2.1) (a := A) hc k2 Ls 0 0 (by omega) kc (fun j hj => by rw [Nat.zero_add]; exact k3 j hj) (N - Ls.length - 1 + 1)
          rw [show N - Ls.length - 1 + 1 + Ls.length = N by omega] at this
          exact this
        rw [k1, ob_some]
        dsimp only
        rw [if_pos k2.2.1, e1]
        by_cases cs : xsm A Ls 0 = A
        · rw [if_pos cs]
          obtain ⟨a1, a2, a3, a4, -⟩ := chs_ok kc (by omega) hy cs
          have C2 : RCm s2 (C, cm, bf) B.1 := (hC.fr f1 (by simp) (by simp)).fr k4 (by simp) (by simp)
          have B2 : RBr s2 B := (hB.fr f1 (by simp) (by simp) (by simp) (by simp)).fr k4 (by simp) (by simp) (by simp) (by simp)
          have P2 : RPt s2 (cnt X.1 3) P := (hP.fr f1 (by simp) (by simp)).fr k4 (by simp) (by simp)
          obtain ⟨s3, p1, p2, p3, p4⟩ := k2.pu H (o := 175) (Or.inl rfl) C2.1 (by show C ≤ 20000; omega) (nI i)
          obtain ⟨s4, q1, q2, q3, q4⟩ := p2.pu H (o := 177) (Or.inr (Or.inl rfl)) (C2.2.1.fr p4 (by simp) (by simp)) (by show C ≤ 20000; omega) (nI B.1)
          obtain ⟨s5, t1, t2, t3, t4⟩ := q2.pu H (o := 179) (Or.inr (Or.inr rfl)) ((C2.2.2.fr p4 (by simp) (by simp)).fr q4 (by simp) (by simp)) (by show C ≤ 20000; omega) 0
          obtain ⟨s6, es6⟩ : ∃ s6, st_e s5 174 k (nI (C - cf k + 1)) = s6 := ⟨_, rfl⟩
          have f6 : Fr 0 [] [] [] [174] [] s5 s6 := by rw [← es6]; exact Fr.e _ _ _ (by simp)
          have n6 : gN s6 = gN s5 := by rw [← es6]; rfl
          have r6 : RXs g l w X n D fa vs σ0 s6 := t2.eq hg (f6.mo (by simp) (by simp) (by simp) (by simp) (by simp)) n6 (f6.1 _ _ (by simp)) (f6.2.2.2.1 166 (by decide)).2 (f6.1 _ _ (by simp)) (f6.2.2.2.1 167 (by decide)).2 (f6.2.2.2.1 168 (by decide)).2 (f6.2.2.2.2.1 169 (by simp)) (f6.2.2.2.2.1 170 (by simp))
          have fA : ∀ a, a ≠ 176 → a ≠ 178 → a ≠ 180 → gE s5 a = gE s2 a := fun a z1 z2 z3 => by
            rw [(t4.2.2.2.1 a (by simpa using z3)).2, (q4.2.2.2.1 a (by simpa using z2)).2, (p4.2.2.2.1 a (by simpa using z1)).2]
          have g74 : gE s5 174 k = nI (C - cf k) := by
            rw [fA 174 (by decide) (by decide) (by decide), (k4.2.2.2.1 174 (by decide)).2, (f1.2.2.2.1 174 (by decide)).2, (hS k (Nat.le_refl _)).2.2, if_pos rfl]
          have e38 : gI s3 66 38 = nI B.1 := by rw [p4.1 66 38 (by simp)]; exact B2.1
          have x6' : gN s5 174 = 512 := t2.1.2.2.1.2.2.2.2.2.1
          have E2 : L_214 N g (N - Ls.length - 1 + 1) 87 (nI k) (nI i) (nI (kP w c.2.1)) A (xsm A Ls 0) (nI (bsr c.2.2).length) s2 = L_214 N g (N - Ls.length - 1) 191 0 (nI i) (nI (kP w c.2.1)) 0 0 (nI 0) s6 := by
            conv => lhs; unfold L_214
            rw [if_pos rfl, if_pos (by rw [l25]; exact aB_nI i60 (by decide)), ci, o25', if_pos (Int32.le_refl _), if_pos ((ceq _ _).mpr cs), p1, ob_some, e38, q1, ob_some, t1, ob_some, if_pos (by rw [x6']; exact aB_nI (by omega) (by decide)), ck, g74, nI_1, es6]
            rfl
          rw [E2]
          have C6 : RCm s6 (C + 1, upv cm C i, upv bf C B.1) B.1 := by
            refine ⟨?_, ?_, ?_⟩
            · refine nf_cg (((p3.fr q4 (by simp) (by simp)).fr t4 (by simp) (by simp)).fr f6 (by simp) (by simp)) (fun d hd => ?_)
              show nI (upv cm C i d) = if d = C then nI i else nI (cm d)
              unfold upv
              split <;> rfl
            · refine nf_cg ((q3.fr t4 (by simp) (by simp)).fr f6 (by simp) (by simp)) (fun d hd => ?_)
              show nI (upv bf C B.1 d) = if d = C then nI B.1 else nI (bf d)
              unfold upv
              split <;> rfl
            · refine nf_cg (t3.fr f6 (by simp) (by simp)) (fun d hd => ?_)
              have hd : d < C + 1 := hd
              show nI ((if d + 1 = C + 1 then B.1 else upv bf C B.1 (d + 1)) - upv bf C B.1 d) = if d = C then 0 else nI ((if d + 1 = C then B.1 else bf (d + 1)) - bf d)
              by_cases cd : d = C
              · rw [if_pos cd, if_pos (by omega), cd, upv_s, Nat.sub_self]; rfl
              · rw [if_neg cd, if_neg (by omega), upv_o _ _ cd]
                by_cases cd2 : d + 1 = C
                · rw [if_pos cd2, cd2, upv_s]
                · rw [if_neg cd2, upv_o _ _ cd2]
          have B6 : RBr s6 B := (((B2.fr p4 (by simp) (by simp) (by simp) (by simp)).fr q4 (by simp) (by simp) (by simp) (by simp)).fr t4 (by simp) (by simp) (by simp) (by simp)).fr f6 (by simp) (by simp) (by simp) (by simp)
          have P6 : RPt s6 (cnt X.1 3) P := (((P2.fr p4 (by simp) (by simp)).fr q4 (by simp) (by simp)).fr t4 (by simp) (by simp)).fr f6 (by simp) (by simp)
          have eb : (C + 1, upv cm C i, upv bf C B.1).2.2 ((C + 1, upv cm C i, upv bf C B.1).1 - 1) = B.1 := by
            show upv bf C B.1 (C + 1 - 1) = B.1
            rw [Nat.add_sub_cancel]
            exact upv_s _ _ _
          have L := L214b (pl := kP w c.2.1) (K := (C + 1, upv cm C i, upv bf C B.1)) H hv hc kl a1 a2 a3 (by show 1 ≤ C + 1; omega) ((bsr c.2.2).reverse.zip Ls) 0 s6 (P, B) 0 rfl (by rw [List.length_zip, List.length_reverse]; omega) r6 P6 B6 C6 (by rw [eb]; exact Nat.le_refl _) (fun j hj => by
            have y : ∀ a, gL s6 a = gL s2 a := fun a => by rw [f6.2.2.2.2.1 a (by simp), t4.2.2.2.2.1 a (by simp), q4.2.2.2.2.1 a (by simp), p4.2.2.2.2.1 a (by simp)]
            rw [y, y]
            exact k3 j hj) (by rw [eb]; intro d z1 z2; have z2 : d < B.1 := z2; omega) (by rw [zip_s (by rw [List.length_reverse]; omega) (wt A.toInt.toNat)]; omega)
          rw [eb] at L
          have len : ((bsr c.2.2).reverse.zip Ls).length = Ls.length := by rw [List.length_zip, List.length_reverse]; omega
          rw [len] at L
          cases hb : xbs l w X.1 (cnt X.1 3) vs (kP w c.2.1) B.1 ((bsr c.2.2).reverse.zip Ls) (P, B) with
          | inl e =>
            rw [hb] at L
            rw [sbd_l]
            obtain ⟨s', m1, m2⟩ := L
            refine ⟨s', ?_, m2⟩
            have := m1 (N - Ls.length - 1 - Ls.length - 1)
            rw [show N - Ls.length - 1 - Ls.length - 1 + Ls.length + 1 = N - Ls.length - 1 by omega] at this
            exact this
          | inr s =>
            rw [hb] at L
            rw [sbd_r]
            obtain ⟨s', m1, m2, m3, m4, m5, m6⟩ := L
            refine ⟨s', ?_, m2, m3, fun j hj => ?_, m5, m4⟩
            · have := m1 (N - Ls.length - 1 - Ls.length - 1)
              rw [show N - Ls.length - 1 - Ls.length - 1 + Ls.length + 1 = N - Ls.length - 1 by omega] at this
              exact this
            · show gE s' 172 j = nI (upv ow k (pwo w c) j) ∧ gE s' 173 j = nI (cf j) ∧ gE s' 174 j = nI ((if j = k then C + 1 else cf (j + 1)) - cf j)
              obtain ⟨y1, y2, y3⟩ := hS j hj
              rw [(m6.2.2.2.1 172 (by simp)).2, (m6.2.2.2.1 173 (by simp)).2, (m6.2.2.2.1 174 (by simp)).2, (f6.2.2.2.1 172 (by decide)).2, (f6.2.2.2.1 173 (by decide)).2, fA 172 (by decide) (by decide) (by decide), fA 173 (by decide) (by decide) (by decide), (k4.2.2.2.1 172 (by decide)).2, (k4.2.2.2.1 173 (by decide)).2, (f1.2.2.2.1 173 (by decide)).2]
              have e174 : ∀ j, j ≠ k → gE s6 174 j = gE σ 174 j := fun j hj => by
                rw [← es6, gE_e, if_neg (fun z => hj z.2), fA 174 (by decide) (by decide) (by decide), (k4.2.2.2.1 174 (by decide)).2, (f1.2.2.2.1 174 (by decide)).2]
              by_cases cj : j = k
              · subst cj
                have cle := (g6 j (Nat.le_refl _)).2
                rw [upv_s, if_pos rfl, ← es6, ← es1, gE_e, if_pos ⟨rfl, rfl⟩, gE_e, if_pos ⟨rfl, rfl⟩, show C + 1 - cf j = C - cf j + 1 by omega]
                exact ⟨rfl, y2, rfl⟩
              · rw [upv_o _ _ cj, if_neg cj, e174 j cj, ← es1, gE_e, if_neg (fun z => cj z.2)]
                rw [if_neg cj] at y3
                exact ⟨y1, y2, y3⟩
        · rw [if_neg cs]
          obtain ⟨s', z1, z2, z3⟩ := XFl.st (N := N) hg k2.1 11 (kP w c.2.1) (by decide)
          refine ⟨s', ?_, z2⟩
          have z1 : F_165 N 11 (nI (kP w c.2.1)) s2 = some s' := z1
          unfold L_214
          rw [if_pos rfl, if_pos (by rw [l25]; exact aB_nI i60 (by decide)), ci, o25', if_pos (Int32.le_refl _), if_neg (fun z => cs ((ceq _ _).mp z)), z1, ob_some]
  · rw [if_neg co, if_neg (show ¬ ((P, ow, cf, (C, cm, bf), B).2.1 k = 0 ∨ (P, ow, cf, (C, cm, bf), B).2.1 k = pwo w c) from co)]
    obtain ⟨s', z1, z2, z3⟩ := XFl.st (N := N) hg h.1 13 (kP w c.2.1) (by decide)
    refine ⟨s', ?_, z2⟩
    have z1 : F_165 N 13 (nI (kP w c.2.1)) σ = some s' := z1
    rw [z1, ob_some]
end RSD
