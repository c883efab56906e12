/-! the reference explores: a command -/
section RSC
variable {N g n k : Nat} {σ σ0 σ' : st_S} {D : Nat → Nat → Int32} {w : List (Nat × Nat × Nat)} {l : List Int32} {X : Tx} {fa : Nat → Nat} {vs nx : Vl} {T : Tr} {i sc q pl : Nat} {c : It} {v : Int64 × Int64} {a : Int64} {K : Nat × (Nat → Nat) × (Nat → Nat)} {s : Pst × Bn}
/-- the chances, and what all have as parts -/
theorem F215 (G : XG N g l w X n σ0) (hv : Vv X.1 vs) (hc : CXr g l w X n D fa i sc c) (h : RXs g l w X n D fa vs σ0 σ) : match xch l w X.1 vs (bsr c.2.2).reverse with
    | .inl e => ∃ z σ', F_215 N g (nI i) (nI pl) σ = some (z, σ') ∧ XFl g l w X n D fa σ0 e σ'
    | .inr Ls => Ls.length = (bsr c.2.2).length ∧ (∀ v ∈ Ls, C01 v) ∧ match xlc pl Ls 1 with
      | .inl e => ∃ z σ', F_215 N g (nI i) (nI pl) σ = some (z, σ') ∧ XFl g l w X n D fa σ0 e σ'
      | .inr a => ∃ σ', F_215 N g (nI i) (nI pl) σ = some (a, σ') ∧ RXs g l w X n D fa vs σ0 σ' ∧ (∀ j (hj : j < Ls.length), gL σ' 185 j = Ls[j].1 ∧ gL σ' 186 j = Ls[j].2) ∧ FCh σ σ' := by
  have hN : 1000000 < N := G.2.1
  have b8 := hc.2.1
  have K := L215c (pl := pl) G hv hc (bsr c.2.2).reverse 0 σ rfl (by rw [List.length_reverse]; omega) h
  rw [List.length_reverse] at K
  unfold F_215
  cases hx : xch l w X.1 vs (bsr c.2.2).reverse with
  | inl e =>
    rw [hx] at K
    obtain ⟨s, k1, k2⟩ := K
    refine ⟨1, s, ?_, k2⟩
    have := k1 (N - (bsr c.2.2).length - 2)
    rw [show N - (bsr c.2.2).length - 2 + (bsr c.2.2).length + 2 = N by omega] at this
    exact this
  | inr Ls =>
    rw [hx] at K
    obtain ⟨k1, k2, s, k3, k4, k5, k6, k7⟩ := K
    refine ⟨k1, k2, ?_⟩
    have L := L215l (pl := pl) G hc k4 Ls 0 1 (by omega) k2 (fun j hj => (k6 j hj).2) (by decide) (by decide)
    have l25 : gN s (g + 25) = 60 := k4.1.1.2.2.2.1.2.2.1 _ (by omega) (by omega)
    obtain ⟨-, -, -, o25, -⟩ := hc.2.2.2 s k4.1.1
    have e1 : L_215 N g N 2 (nI i) (nI pl) 0 0 0 σ = L_215 N g (N - (bsr c.2.2).length - 1) 129 (nI i) (nI pl) 0 1 0 s := by
      have := k3 (N - (bsr c.2.2).length - 1 + 1)
      rw [show N - (bsr c.2.2).length - 1 + 1 + (bsr c.2.2).length = N by omega] at this
      refine (show L_215 N g N 2 (nI i) (nI pl) 0 0 0 σ = _ from this).trans ?_
      conv => lhs; unfold L_215
      rw [if_pos rfl, if_pos (by rw [l25]; exact aB_nI hc.1 (by decide)), nI_clamp (by have := hc.1; omega), o25, if_pos (Int32.le_refl _)]
    rw [e1]
    cases hl : xlc pl Ls 1 with
    | inl e =>
      rw [hl] at L
      obtain ⟨-, z, s', l1, l2⟩ := L
      refine ⟨z, s', ?_, l2⟩
      have := l1 (N - (bsr c.2.2).length - 1 - Ls.length - 1)
      rw [show N - (bsr c.2.2).length - 1 - Ls.length - 1 + Ls.length + 1 = N - (bsr c.2.2).length - 1 by omega] at this
      exact this
    | inr z =>
      rw [hl] at L
      have L : ∀ f, L_215 N g (f + Ls.length + 1) 129 (nI i) (nI pl) 0 1 (nI 0) s = some (z, s) := L
      refine ⟨s, ?_, k4, fun j hj => by have := k6 j hj; rw [Nat.zero_add] at this; exact this, k7⟩
      have := L (N - (bsr c.2.2).length - 1 - Ls.length - 1)
      rw [show N - (bsr c.2.2).length - 1 - Ls.length - 1 + Ls.length + 1 = N - (bsr c.2.2).length - 1 by omega] at this
      exact this
/-- their sum -/
theorem L214s (hc : CXr g l w X n D fa i sc c) (h : RXs g l w X n D fa vs σ0 σ) : ∀ (Ls : List (Int64 × Int64)) (q : Nat) (s : Int64), q + Ls.length = (bsr c.2.2).length → (∀ v ∈ Ls, C01 v) → (∀ j (hj : j < Ls.length), gL σ 185 (q + j) = Ls[j].1 ∧ gL σ 186 (q + j) = Ls[j].2) → ∀ f, L_214 N g (f + Ls.length) 87 (nI k) (nI i) (nI pl) a s (nI q) σ = L_214 N g f 87 (nI k) (nI i) (nI pl) a (xsm a Ls s) (nI (bsr c.2.2).length) σ := by
  obtain ⟨i60, b8, -, hco⟩ := id hc
  obtain ⟨-, -, -, o25, -⟩ := hco σ h.1.1
  have l25 : gN σ (g + 25) = 60 := h.1.1.2.2.2.1.2.2.1 _ (by omega) (by omega)
  have x11 := h.1.2.2.1.2.2.2.2.2.2.2.2.2.2.1
  have x12 := h.1.2.2.1.2.2.2.2.2.2.2.2.2.2.2
  intro Ls
  induction Ls with
  | nil =>
    intro q s hq _ _ f
    have hq : q = (bsr c.2.2).length := hq
    rw [hq]
    rfl
  | cons v Ls ih =>
    intro q s hq hC hL f
    rw [List.length_cons] at hq
    have cv := hC v List.mem_cons_self
    obtain ⟨e5, e6⟩ := hL 0 (by rw [List.length_cons]; omega)
    have e5 : gL σ 185 q = v.1 := e5
    have e6 : gL σ 186 q = v.2 := e6
    rw [List.length_cons, ← Nat.add_assoc]
    conv => lhs; unfold L_214
    rw [if_pos rfl, if_pos (by rw [l25]; exact aB_nI i60 (by decide)), nI_clamp (by omega), o25, if_neg (nle_nI (by omega) (by omega)), if_pos (by rw [x11]; exact aB_nI (by omega) (by decide)), if_pos (by rw [x12]; exact aB_nI (by omega) (by decide)), nI_clamp (by omega), e5, e6, if_pos (fun z => by
      have := cv.2.2.1
      rw [z, L0] at this
      omega), nI_1]
    exact ih (q + 1) (s + v.1 * (a / v.2)) (by omega) (fun u hu => hC u (List.mem_cons_of_mem _ hu)) (fun j hj => by
      have := hL (j + 1) (by rw [List.length_cons]; omega)
      rw [show q + 1 + j = q + (j + 1) by omega]
      exact this) f
/-- the branches of a command -/
theorem L214b (G : XG N g l w X n σ0) (hv : Vv X.1 vs) (hc : CXr g l w X n D fa i sc c) {Ls : List (Int64 × Int64)} (hLs : Ls.length = (bsr c.2.2).length) {A : Nat} (hA : 0 < A) (hA2 : A < 1000000000) (hFq : ∀ v ∈ Ls, Fq A v) (hK : 1 ≤ K.1) : ∀ (S : List ((Tr × List Tr) × (Int64 × Int64))) (q : Nat) (σ : st_S) (s : Pst × Bn) (t : Nat), ((bsr c.2.2).reverse.zip Ls).drop q = S → q + S.length = (bsr c.2.2).length → RXs g l w X n D fa vs σ0 σ → RPt σ (cnt X.1 3) s.1 → RBr σ s.2 → RCm σ K s.2.1 → K.2.2 (K.1 - 1) ≤ s.2.1 → (∀ j (hj : j < Ls.length), gL σ 185 j = Ls[j].1 ∧ gL σ 186 j = Ls[j].2) → Fqr A (K.2.2 (K.1 - 1)) s.2 t → t + ((S.map fun x => wt A x.2).sum) ≤ A → match xbs l w X.1 (cnt X.1 3) vs pl (K.2.2 (K.1 - 1)) S s with
    | .inl e => ∃ σ', (∀ f, L_214 N g (f + S.length + 1) 191 0 (nI i) (nI pl) 0 0 (nI q) σ = some σ') ∧ XFl g l w X n D fa σ0 e σ'
    | .inr s' => ∃ σ', (∀ f, L_214 N g (f + S.length + 1) 191 0 (nI i) (nI pl) 0 0 (nI q) σ = some σ') ∧ RXs g l w X n D fa vs σ0 σ' ∧ RPt σ' (cnt X.1 3) s'.1 ∧ RBr σ' s'.2 ∧ RCm σ' K s'.2.1 ∧ FGo σ σ' := by
  have hg := G.1
  obtain ⟨i60, b8, -, hco⟩ := id hc
  have l25 : ∀ s, RX0 g l w X n D fa σ0 s → gN s (g + 25) = 60 := fun s hs => hs.1.2.2.2.1.2.2.1 _ (by omega) (by omega)
  intro S
  induction S with
  | nil =>
    intro q σ s t hd hq h hP hB hC hb hL hF ht
    have hq : q = (bsr c.2.2).length := hq
    refine ⟨σ, fun f => ?_, h, hP, hB, hC, Fr.rf σ⟩
    obtain ⟨-, -, -, o25, -⟩ := hco σ h.1.1
    unfold L_214
    rw [if_neg (by decide), if_pos (by rw [l25 σ h.1]; exact aB_nI i60 (by decide)), nI_clamp (by omega), o25, hq, if_pos (Int32.le_refl _)]
  | cons x S ih =>
    obtain ⟨b, v⟩ := x
    intro q σ s t hd hq h hP hB hC hb hL hF ht
    rw [List.length_cons] at hq
    rw [List.map_cons, List.sum_cons] at ht
    have ht : t + (wt A v + (S.map fun x => wt A x.2).sum) ≤ A := ht
    have hT : ((bsr c.2.2).reverse.zip Ls)[q]? = some (b, v) := by
      have : (((bsr c.2.2).reverse.zip Ls).drop q)[0]? = some (b, v) := by rw [hd]; rfl
      rw [List.getElem?_drop] at this
      exact this
    have hd' : ((bsr c.2.2).reverse.zip Ls).drop (q + 1) = S := by rw [← List.drop_drop, hd]; rfl
    obtain ⟨hTb, hTv⟩ := List.getElem?_zip_eq_some.mp hT
    have hTb : (bsr c.2.2).reverse[q]? = some b := hTb
    have hTv : Ls[q]? = some v := hTv
    obtain ⟨qL, eq⟩ := List.getElem?_eq_some_iff.mp hTv
    have vL : v ∈ Ls := by rw [← eq]; exact List.getElem_mem qL
    obtain ⟨e5, e6⟩ := hL q qL
    rw [eq] at e5 e6
    obtain ⟨-, -, -, o25, -⟩ := hco σ h.1.1
    have x11 := h.1.2.2.1.2.2.2.2.2.2.2.2.2.2.1
    have st : ∀ f, L_214 N g (f + 1) 191 0 (nI i) (nI pl) 0 0 (nI q) σ = if v.1 = 0 then L_214 N g f 191 0 (nI i) (nI pl) 0 0 (nI (q + 1)) σ else (F_216 N g (nI i) (nI q) (nI pl) σ).bind fun p => L_214 N g f 191 0 (nI i) (nI pl) 0 0 (nI (q + 1)) p := fun f => by
      conv => lhs; unfold L_214
      rw [if_neg (by decide), if_pos (by rw [l25 σ h.1]; exact aB_nI i60 (by decide)), nI_clamp (by omega), o25, if_neg (nle_nI (by omega) (by omega)), if_pos h.2.1, if_pos (by rw [x11]; exact aB_nI (by omega) (by decide)), nI_clamp (by omega), e5, nI_1]
      by_cases c0 : v.1 = 0
      · rw [if_pos ((ceq _ _).mpr c0), if_pos c0]
      · rw [if_neg (fun z => c0 ((ceq _ _).mp z)), if_neg c0]
    unfold xbs
    by_cases c0 : v.1 = 0
    · rw [if_pos c0]
      have I := ih (q + 1) σ s t hd' (by omega) h hP hB hC hb hL hF (by omega)
      cases hx : xbs l w X.1 (cnt X.1 3) vs pl (K.2.2 (K.1 - 1)) S s with
      | inl e =>
        rw [hx] at I
        obtain ⟨s', i1, i2⟩ := I
        refine ⟨s', fun f => ?_, i2⟩
        rw [List.length_cons, show f + (S.length + 1) + 1 = f + S.length + 1 + 1 by omega, st, if_pos c0, i1]
      | inr s2 =>
        rw [hx] at I
        obtain ⟨s', i1, i2⟩ := I
        refine ⟨s', fun f => ?_, i2⟩
        rw [List.length_cons, show f + (S.length + 1) + 1 = f + S.length + 1 + 1 by omega, st, if_pos c0, i1]
    · rw [if_neg c0]
      have fq := Fqr.s (v := v) hA hA2 (hFq v vL) (by omega) hF
      have M := F216 (pl := pl) G hv h (hc.bx hTb) hP hB hC hK hb (by omega) e5 e6 fq
      cases hx1 : xb1 l w X.1 (cnt X.1 3) vs pl (K.2.2 (K.1 - 1)) b v s with
      | inl e =>
        rw [hx1] at M
        rw [sbd_l]
        obtain ⟨s', m1, m2⟩ := M
        refine ⟨s', fun f => ?_, m2⟩
        rw [List.length_cons, show f + (S.length + 1) + 1 = f + S.length + 1 + 1 by omega, st, if_neg c0, m1, ob_some]
        have ne := m2.ne
        obtain ⟨-, -, -, y3⟩ := m2
        unfold L_214
        rw [if_neg (by decide), if_pos (by rw [l25 s' y3]; exact aB_nI i60 (by decide)), if_neg ne]
        split <;> rfl
      | inr s1 =>
        rw [hx1] at M
        rw [sbd_r]
        obtain ⟨σ1, m1, m2, m3, m4, m5, m6⟩ := M
        have hx2 := hx1
        unfold xb1 at hx2
        obtain ⟨nx, -, hx3⟩ := sbd_i hx2
        unfold xb2 at hx3
        cases hgo : xgo (cnt X.1 3) s.1 nx with
        | none => rw [hgo] at hx3; cases hx3
        | some p =>
          rw [hgo] at hx3
          dsimp only at hx3
          cases hbw : xbw (K.2.2 (K.1 - 1)) s.2 p.1 v with
          | none => rw [hbw] at hx3; cases hx3
          | some B' =>
            rw [hbw] at hx3
            injection hx3 with hx3
            subst hx3
            obtain ⟨w1, w2, w3, w4, w5⟩ := xbw_ok hA hA2 (hFq v vL) (by omega) hB.2.1 hb hF hbw
            have I := ih (q + 1) σ1 (p.2, B') (t + wt A v) hd' (by omega) m2 m3 m4 m5 (by show _ ≤ B'.1; omega) (fun j hj => by
              rw [m6.2.2.2.2.1 185 (by simp), m6.2.2.2.2.1 186 (by simp)]
              exact hL j hj) w5 (by omega)
            cases hx : xbs l w X.1 (cnt X.1 3) vs pl (K.2.2 (K.1 - 1)) S (p.2, B') with
            | inl e =>
              rw [hx] at I
              obtain ⟨s', i1, i2⟩ := I
              refine ⟨s', fun f => ?_, i2⟩
              rw [List.length_cons, show f + (S.length + 1) + 1 = f + S.length + 1 + 1 by omega, st, if_neg c0, m1, ob_some, i1]
            | inr s2 =>
              rw [hx] at I
              obtain ⟨s', i1, i2, i3, i4, i5, i6⟩ := I
              refine ⟨s', fun f => ?_, i2, i3, i4, i5, Fr.t0 m6 i6⟩
              rw [List.length_cons, show f + (S.length + 1) + 1 = f + S.length + 1 + 1 by omega, st, if_neg c0, m1, ob_some, i1]
end RSC
