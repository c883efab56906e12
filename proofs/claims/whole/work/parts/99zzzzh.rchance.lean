/-! the reference explores: the chances of a command -/
/-- what chances may change -/
abbrev FCh (σ σ' : st_S) : Prop := Fr 0 [(66, 16), (66, 17), (66, 23), (165, 1)] [] [] [166, 168] [163, 164, 169, 170, 185, 186] σ σ'
section RSB
variable {N g n k : Nat} {σ σ0 σ' : st_S} {D : Nat → Nat → Int32} {w : List (Nat × Nat × Nat)} {l : List Int32} {X : Tx} {fa : Nat → Nat} {vs nx : Vl} {T : Tr} {i sc q pl : Nat} {c : It} {v : Int64 × Int64} {a : Int64}
theorem FW.fch (fr : FW σ σ') : FCh σ σ' := fr.mo (fun _ q => q) (by simp) (by simp) (fun _ q => q) (by intro a q; simp only [List.mem_cons, List.not_mem_nil, or_false] at q ⊢; omega)
theorem FCh.fx (fr : FCh σ σ') : FX σ σ' := fr.mo (by intro a q; simp only [List.mem_cons, List.not_mem_nil, or_false] at q ⊢; rcases q with q | q | q | q <;> simp [q]) (by simp) (by simp) (by intro a q; simp only [List.mem_cons, List.not_mem_nil, or_false] at q ⊢; omega) (by intro a q; simp only [List.mem_cons, List.not_mem_nil, or_false] at q ⊢; omega)
/-- a command's rows, whatever else changes -/
def CXr (g : Nat) (l : List Int32) (w : List (Nat × Nat × Nat)) (X : Tx) (n : Nat) (D : Nat → Nat → Int32) (fa : Nat → Nat) (i sc : Nat) (c : It) : Prop := i < 60 ∧ (bsr c.2.2).length ≤ 8 ∧ sc + nsb (bsr c.2.2) ≤ nsc X.2.2 ∧ ∀ s, RT g l w X n D fa s → CoR w (gE s) (RuR l w X.1 fa D n) (VNm l w X.1) g i sc c
theorem CXr.bx (h : CXr g l w X n D fa i sc c) {b : Tr × List Tr} (hb : (bsr c.2.2).reverse[q]? = some b) : BX g l w X n D fa (8 * i + q) (sc + nsb ((bsr c.2.2).drop ((bsr c.2.2).length - q))) b := by
  obtain ⟨h1, h2, h3, h4⟩ := h
  have lt := rev_lt hb
  have := nsb_d hb
  refine ⟨by omega, by omega, fun s hs => ?_⟩
  obtain ⟨-, -, -, -, -, q7⟩ := h4 s hs
  exact q7.at' hb
/-- the chances, one by one -/
theorem L215c (G : XG N g l w X n σ0) (hv : Vv X.1 vs) (hc : CXr g l w X n D fa i sc c) : ∀ (S : List (Tr × List Tr)) (q : Nat) (σ : st_S), (bsr c.2.2).reverse.drop q = S → q + S.length = (bsr c.2.2).length → RXs g l w X n D fa vs σ0 σ → match xch l w X.1 vs S with
    | .inl e => ∃ σ', (∀ f, L_215 N g (f + S.length + 2) 2 (nI i) (nI pl) (nI q) 0 0 σ = some (1, σ')) ∧ XFl g l w X n D fa σ0 e σ'
    | .inr Ls => Ls.length = S.length ∧ (∀ v ∈ Ls, C01 v) ∧ ∃ σ', (∀ f, L_215 N g (f + S.length) 2 (nI i) (nI pl) (nI q) 0 0 σ = L_215 N g f 2 (nI i) (nI pl) (nI (bsr c.2.2).length) 0 0 σ') ∧ RXs g l w X n D fa vs σ0 σ' ∧ (∀ j, j < q → gL σ' 185 j = gL σ 185 j ∧ gL σ' 186 j = gL σ 186 j) ∧ (∀ j (hj : j < Ls.length), gL σ' 185 (q + j) = Ls[j].1 ∧ gL σ' 186 (q + j) = Ls[j].2) ∧ FCh σ σ' := by
  have hg := G.1
  obtain ⟨i60, b8, -, hco⟩ := id hc
  intro S
  induction S with
  | nil =>
    intro q σ hd hq h
    have hq : q = (bsr c.2.2).length := hq
    exact ⟨rfl, (fun v hv => by cases hv), σ, (fun f => by rw [hq]; rfl), h, fun _ _ => ⟨rfl, rfl⟩, fun j hj => absurd hj (Nat.not_lt_zero j), Fr.rf σ⟩
  | cons b S ih =>
    intro q σ hd hq h
    rw [List.length_cons] at hq
    have hT : (bsr c.2.2).reverse[q]? = some b := by
      have : ((bsr c.2.2).reverse.drop q)[0]? = some b := by rw [hd]; rfl
      rw [List.getElem?_drop] at this
      exact this
    have hd' : (bsr c.2.2).reverse.drop (q + 1) = S := by rw [← List.drop_drop, hd]; rfl
    obtain ⟨-, -, bx⟩ := hc.bx hT
    obtain ⟨⟨⟨ra, r1, r2⟩, r3, -⟩, -⟩ := bx σ h.1.1
    obtain ⟨-, -, -, o25, -⟩ := hco σ h.1.1
    have l25 : ∀ s, RX0 g l w X n D fa σ0 s → gN s (g + 25) = 60 := fun s hs => hs.1.2.2.2.1.2.2.1 _ (by omega) (by omega)
    have l26 : ∀ s, RX0 g l w X n D fa σ0 s → gN s (g + 26) = 480 := fun s hs => hs.1.2.2.2.1.2.2.2.1 _ (by omega) (by omega)
    have l27 : ∀ s, RX0 g l w X n D fa σ0 s → gN s (g + 27) = 480 := fun s hs => hs.1.2.2.2.1.2.2.2.1 _ (by omega) (by omega)
    have K := rx_ev G hv h r2
    have st0 : ∀ f s, F_213 N g (nI ra) σ = some s → RX0 g l w X n D fa σ0 s → L_215 N g (f + 1) 2 (nI i) (nI pl) (nI q) 0 0 σ = (if (gI s 66 16) = 0 then
            if (lg_cmp (gL s 163 0) 0) < 0 then
              (F_165 N 11 (gE s (g + 27) (8 * i + q)) (st_E (st_E s 185 q (gL s 163 0)) 186 q (gL s 164 0))).bind fun p_13 =>
              L_215 N g f 2 (nI i) (nI pl) (nI (q + 1)) 0 0 (p_13)
            else
              if (lg_cmp (gL s 163 0) (gL s 164 0)) ≤ 0 then
                L_215 N g f 2 (nI i) (nI pl) (nI (q + 1)) 0 0 (st_E (st_E s 185 q (gL s 163 0)) 186 q (gL s 164 0))
              else
                (F_165 N 11 (gE s (g + 27) (8 * i + q)) (st_E (st_E s 185 q (gL s 163 0)) 186 q (gL s 164 0))).bind fun p_16 =>
                L_215 N g f 2 (nI i) (nI pl) (nI (q + 1)) 0 0 (p_16)
          else
            L_215 N g f 2 (nI i) (nI pl) (nI (q + 1)) 0 0 (st_E (st_E s 185 q (gL s 163 0)) 186 q (gL s 164 0))) := fun f s hs hs0 => by
      have x11 := hs0.2.2.1.2.2.2.2.2.2.2.2.2.2.1
      have x12 := hs0.2.2.1.2.2.2.2.2.2.2.2.2.2.2
      have l63 : gN s 163 = 16400 := hs0.1.2.2.2.1.2.2.2.2.1
      have l64 : gN s 164 = 16400 := hs0.1.2.2.2.1.2.2.2.2.2.1
      conv => lhs; unfold L_215
      rw [if_pos rfl, if_pos (by rw [l25 σ h.1]; exact aB_nI i60 (by decide)), nI_clamp (by omega), o25, if_neg (nle_nI (by omega) (by omega)), if_pos h.2.1, mul8, if_pos (by rw [l26 σ h.1]; exact aB_nI (by omega) (by decide)), show gE σ (g + 26) (nI (8 * i + q)).toNatClampNeg = nI ra by rw [nI_clamp (by omega)]; exact r1, hs, ob_some, if_pos (by rw [l63]; exact aB_0 (by decide) (by decide)), if_pos (by rw [x11]; exact aB_nI (by omega) (by decide)), if_pos (by rw [l64]; exact aB_0 (by decide) (by decide)), if_pos (by rw [x12]; exact aB_nI (by omega) (by decide)), if_pos (show aB (nI (8 * i + q)) (gN s (g + 27)) by rw [l27 s hs0]; exact aB_nI (by omega) (by decide)), nI_clamp (n := q) (by omega), nI_clamp (n := 8 * i + q) (by omega), cl0, nI_1]
    have fin : ∀ s e, XFl g l w X n D fa σ0 e s → ∀ f, L_215 N g (f + 2) 2 (nI i) (nI pl) (nI (q + 1)) 0 0 s = some (1, s) := fun s e hs f => by
      have ne := hs.ne
      obtain ⟨-, z1, z2, z3⟩ := hs
      obtain ⟨-, -, -, o25', -⟩ := hco s z3.1
      have e9 : ∀ f, L_215 N g (f + 1) 129 (nI i) (nI pl) 0 1 0 s = some (1, s) := fun f => by
        unfold L_215
        rw [if_neg (by decide), if_pos (by rw [l25 s z3]; exact aB_nI i60 (by decide)), if_neg ne]
        split <;> rfl
      conv => lhs; unfold L_215
      rw [if_pos rfl, if_pos (by rw [l25 s z3]; exact aB_nI i60 (by decide)), if_neg ne, e9]
      split <;> rfl
    have wE : ∀ s, FCh s (st_E (st_E s 185 q (gL s 163 0)) 186 q (gL s 164 0)) := fun s => Fr.t0 (Fr.E _ _ _ (by simp)) (Fr.E _ _ _ (by simp))
    unfold xch
    cases hev : exv l w X.1 vs b.1 with
    | inl e =>
      rw [hev] at K
      rw [sbd_l, sbd_l]
      obtain ⟨s, k1, k2, k3, k4, k5⟩ := K
      have X' : XFl g l w X n D fa σ0 e (st_E (st_E s 185 q (gL s 163 0)) 186 q (gL s 164 0)) := ⟨by have := h.1.1.er r2 hev; omega, k2, k3, k4.eq hg (FCh.fx (wE s)) rfl rfl rfl⟩
      refine ⟨_, fun f => ?_, X'⟩
      rw [List.length_cons, show f + (S.length + 1) + 2 = f + S.length + 2 + 1 by omega, st0 _ s k1 k4, if_neg (show ¬ gI s 66 16 = 0 from X'.ne)]
      exact fin _ e X' _
    | inr v =>
      rw [hev] at K
      rw [sbd_r]
      obtain ⟨ok, s, k1, k2, k3, k4, k5⟩ := K
      have wr : RX0 g l w X n D fa σ0 (st_E (st_E s 185 q (gL s 163 0)) 186 q (gL s 164 0)) := k4.1.eq hg (FCh.fx (wE s)) rfl rfl rfl
      obtain ⟨⟨⟨-, -, -⟩, r3', -⟩, -⟩ := bx s k4.1.1
      unfold xc1
      by_cases cc : v.1 < 0 ∨ v.2 < v.1
      · rw [if_pos cc, sbd_l]
        obtain ⟨s', z1, z2, z3⟩ := XFl.st (N := N) hg wr 11 (kP w (bw b.1)) (by decide)
        refine ⟨s', fun f => ?_, z2⟩
        have z1 : F_165 N 11 (nI (kP w (bw b.1))) (st_E (st_E s 185 q (gL s 163 0)) 186 q (gL s 164 0)) = some s' := z1
        rw [List.length_cons, show f + (S.length + 1) + 2 = f + S.length + 2 + 1 by omega, st0 _ s k1 k4.1, if_pos k4.2.1, r3', z1, ob_some, k2, k3]
        have F := fin s' (11, kP w (bw b.1)) z2 (f + S.length)
        by_cases c1 : v.1 < 0
        · rw [if_pos ((clt _ _).mpr c1)]
          exact F
        · rw [if_neg (fun z => c1 ((clt _ _).mp z)), if_neg (fun z => by
            rcases cc with y | y
            · exact c1 y
            · exact Int64.lt_irrefl (Int64.lt_of_lt_of_le y ((cle _ _).mp z)))]
          exact F
      · rw [if_neg cc, sbd_r]
        have c1 : ¬ v.1 < 0 := fun z => cc (Or.inl z)
        have c2 : ¬ v.2 < v.1 := fun z => cc (Or.inr z)
        have st : ∀ f, L_215 N g (f + 1) 2 (nI i) (nI pl) (nI q) 0 0 σ = L_215 N g f 2 (nI i) (nI pl) (nI (q + 1)) 0 0 (st_E (st_E s 185 q v.1) 186 q v.2) := fun f => by
          rw [st0 _ s k1 k4.1, if_pos k4.2.1, k2, k3, if_neg (fun z => c1 ((clt _ _).mp z)), if_pos ((cle _ _).mpr (Int64.not_lt.mp c2))]
        have wE2 : FCh s (st_E (st_E s 185 q v.1) 186 q v.2) := Fr.t0 (Fr.E _ _ _ (by simp)) (Fr.E _ _ _ (by simp))
        have r5 : RXs g l w X n D fa vs σ0 (st_E (st_E s 185 q v.1) 186 q v.2) := k4.eq hg (FCh.fx wE2) rfl rfl rfl rfl rfl rfl rfl rfl
        have I := ih (q + 1) _ hd' (by omega) r5
        cases hx : xch l w X.1 vs S with
        | inl e =>
          rw [hx] at I
          rw [sbd_l]
          obtain ⟨s', i1, i2⟩ := I
          refine ⟨s', fun f => ?_, i2⟩
          rw [List.length_cons, show f + (S.length + 1) + 2 = f + S.length + 2 + 1 by omega, st, i1]
        | inr Ls =>
          rw [hx] at I
          rw [sbd_r]
          obtain ⟨i1, i2, s', i3, i4, i5, i6, i7⟩ := I
          have e5 : gL s' 185 q = v.1 ∧ gL s' 186 q = v.2 := by
            obtain ⟨y1, y2⟩ := i5 q (Nat.lt_succ_self q)
            rw [y1, y2]
            exact ⟨by rw [gL_E, if_neg (by omega), gL_E, if_pos ⟨rfl, rfl⟩], by rw [gL_E, if_pos ⟨rfl, rfl⟩]⟩
          refine ⟨by rw [List.length_cons, List.length_cons, i1], fun u hu => ?_, s', fun f => ?_, i4, fun j hj => ?_, fun j hj => ?_, Fr.t0 (FW.fch k5) (Fr.t0 wE2 i7)⟩
          · rcases List.mem_cons.mp hu with z | z
            · rw [z]; exact c01_of ok c1 c2
            · exact i2 u z
          · rw [List.length_cons, show f + (S.length + 1) = f + S.length + 1 by omega, st, i3]
          · obtain ⟨y1, y2⟩ := i5 j (by omega)
            rw [y1, y2, gL_E, if_neg (by omega), gL_E, if_neg (by omega), gL_E, if_neg (by omega), gL_E, if_neg (by omega), k5.2.2.2.2.1 185 (by decide), k5.2.2.2.2.1 186 (by decide)]
            exact ⟨rfl, rfl⟩
          · cases j with
            | zero => exact e5
            | succ j =>
              have := i6 j (by rw [List.length_cons] at hj; omega)
              rw [show q + (j + 1) = q + 1 + j by omega]
              exact this
/-- what all have as parts -/
theorem L215l (G : XG N g l w X n σ0) (hc : CXr g l w X n D fa i sc c) (h : RXs g l w X n D fa vs σ0 σ) : ∀ (Ls : List (Int64 × Int64)) (q : Nat) (a : Int64), q + Ls.length = (bsr c.2.2).length → (∀ v ∈ Ls, C01 v) → (∀ j (hj : j < Ls.length), gL σ 186 (q + j) = Ls[j].2) → 0 < a.toInt → a.toInt < 1000000000 → match xlc pl Ls a with
    | .inl e => e = (6, pl) ∧ ∃ z σ', (∀ f, L_215 N g (f + Ls.length + 1) 129 (nI i) (nI pl) 0 a (nI q) σ = some (z, σ')) ∧ XFl g l w X n D fa σ0 e σ'
    | .inr z => ∀ f, L_215 N g (f + Ls.length + 1) 129 (nI i) (nI pl) 0 a (nI q) σ = some (z, σ) := by
  have hg := G.1
  have hN : 1000000 < N := G.2.1
  obtain ⟨i60, b8, -, hco⟩ := id hc
  obtain ⟨-, -, -, o25, -⟩ := hco σ h.1.1
  have l25 : ∀ s, RX0 g l w X n D fa σ0 s → gN s (g + 25) = 60 := fun s hs => hs.1.2.2.2.1.2.2.1 _ (by omega) (by omega)
  have x12 := h.1.2.2.1.2.2.2.2.2.2.2.2.2.2.2
  intro Ls
  induction Ls with
  | nil =>
    intro q a hq _ _ _ _
    have hq : q = (bsr c.2.2).length := hq
    show ∀ f, _ = _
    intro f
    unfold L_215
    rw [if_neg (by decide), if_pos (by rw [l25 σ h.1]; exact aB_nI i60 (by decide)), nI_clamp (by omega), o25, hq, if_pos (Int32.le_refl _)]
  | cons v Ls ih =>
    intro q a hq hC hL ha ha2
    rw [List.length_cons] at hq
    have cv := hC v List.mem_cons_self
    have e6 : gL σ 186 q = v.2 := hL 0 (by rw [List.length_cons]; omega)
    have e6c : gL σ 186 (nI q).toNatClampNeg = v.2 := by rw [nI_clamp (by omega)]; exact e6
    obtain ⟨q1, q2, q3, q4⟩ := lc_st ha ha2 cv.2.2.1 cv.2.2.2
    have st : ∀ f, L_215 N g (f + 1) 129 (nI i) (nI pl) 0 a (nI q) σ = if a / dv a v.2 * v.2 < 1000000000 then L_215 N g f 129 (nI i) (nI pl) 0 (a / dv a v.2 * v.2) (nI (q + 1)) σ else (F_165 N 6 (nI pl) σ).bind fun p => L_215 N g f 129 (nI i) (nI pl) 0 (a / dv a v.2 * v.2) (nI (q + 1)) p := fun f => by
      conv => lhs; unfold L_215
      rw [if_neg (by decide), if_pos (by rw [l25 σ h.1]; exact aB_nI i60 (by decide)), nI_clamp (by omega), o25, if_neg (nle_nI (by omega) (by omega)), if_pos h.2.1, if_pos (by rw [x12]; exact aB_nI (by omega) (by decide)), e6c, F196 (by omega) (by omega) cv.2.2.1, ob_some]
      dsimp only
      rw [if_pos q4, if_pos (by rw [x12]; exact aB_nI (by omega) (by decide)), e6c, nI_1]
      by_cases c : a / dv a v.2 * v.2 < 1000000000
      · rw [if_pos ((clt _ _).mpr c), if_pos c]
      · rw [if_neg (fun z => c ((clt _ _).mp z)), if_neg c]
    unfold xlc
    by_cases cc : a / dv a v.2 * v.2 < 1000000000
    · rw [if_pos cc]
      have c' := cc
      rw [Int64.lt_iff_toInt_lt, LG] at c'
      have I := ih (q + 1) (a / dv a v.2 * v.2) (by omega) (fun u hu => hC u (List.mem_cons_of_mem _ hu)) (fun j hj => by
        have := hL (j + 1) (by rw [List.length_cons]; omega)
        rw [show q + 1 + j = q + (j + 1) by omega]
        exact this) (by omega) c'
      cases hx : xlc pl Ls (a / dv a v.2 * v.2) with
      | inl e =>
        rw [hx] at I
        obtain ⟨i0, z, s', i1, i2⟩ := I
        refine ⟨i0, z, s', fun f => ?_, i2⟩
        rw [List.length_cons, show f + (Ls.length + 1) + 1 = f + Ls.length + 1 + 1 by omega, st, if_pos cc, i1]
      | inr z =>
        rw [hx] at I
        have I : ∀ f, L_215 N g (f + Ls.length + 1) 129 (nI i) (nI pl) 0 (a / dv a v.2 * v.2) (nI (q + 1)) σ = some (z, σ) := I
        show ∀ f, _ = _
        intro f
        rw [List.length_cons, show f + (Ls.length + 1) + 1 = f + Ls.length + 1 + 1 by omega, st, if_pos cc, I]
    · rw [if_neg cc]
      obtain ⟨s', z1, z2, z3⟩ := XFl.st (N := N) hg h.1 6 pl (by decide)
      refine ⟨rfl, a / dv a v.2 * v.2, s', fun f => ?_, z2⟩
      have z1 : F_165 N 6 (nI pl) σ = some s' := z1
      rw [List.length_cons, show f + (Ls.length + 1) + 1 = f + Ls.length + 1 + 1 by omega, st, if_neg cc, z1, ob_some]
      have ne := z2.ne
      obtain ⟨-, y1, y2, y3⟩ := z2
      unfold L_215
      rw [if_neg (by decide), if_pos (by rw [l25 s' y3]; exact aB_nI i60 (by decide)), if_neg ne]
      split <;> rfl
end RSB
