/-! the reference explores: all states -/
/-- before the k-th state -/
def RSt0 (σ : st_S) (k : Nat) (ow cf : Nat → Nat) (C : Nat) : Prop := ∀ j, j < k → gE σ 172 j = nI (ow j) ∧ gE σ 173 j = nI (cf j) ∧ gE σ 174 j = nI ((if j + 1 = k then C else cf (j + 1)) - cf j)
def RGk (σ : st_S) (V k : Nat) (G : Gsh) : Prop := RPt σ V G.1 ∧ RSt0 σ k G.2.1 G.2.2.1 G.2.2.2.1.1 ∧ RCm σ G.2.2.2.1 G.2.2.2.2.1 ∧ RBr σ G.2.2.2.2
def GJ (E : List En) (k : Nat) (G : Gsh) : Prop := k ≤ G.1.1 ∧ 1 ≤ G.1.1 ∧ G.1.1 ≤ 512 ∧ (∀ j, j < G.1.1 → Vr E (G.1.2 j)) ∧ G.2.2.2.1.1 ≤ G.2.2.2.2.1 ∧ G.2.2.2.2.1 ≤ 4096 ∧ (∀ j, j < k → G.2.1 j ≤ 3 ∧ G.2.2.1 j ≤ G.2.2.2.1.1) ∧ (∀ j, j + 1 < k → G.2.2.1 j ≤ G.2.2.1 (j + 1)) ∧ (∀ c, c < G.2.2.2.1.1 → G.2.2.2.1.2.2 c ≤ G.2.2.2.2.1) ∧ ∀ c, c + 1 < G.2.2.2.1.1 → G.2.2.2.1.2.2 c ≤ G.2.2.2.1.2.2 (c + 1)
theorem GJ.ow {E : List En} {k : Nat} {G : Gsh} (h : GJ E k G) (hk : k < G.1.1) {o : Nat} (ho : o ≤ 3) : GI E k (G.1, upv G.2.1 k o, upv G.2.2.1 k G.2.2.2.1.1, G.2.2.2) := by
  obtain ⟨h0, h1, h2, h3, h4, h5, h6, h7, h8, h9⟩ := h
  refine ⟨hk, h2, h3, h4, h5, fun j hj => ⟨?_, ?_⟩, fun j hj => ?_, h8, h9⟩
  · show upv G.2.1 k o j ≤ 3
    by_cases c : j = k
    · rw [c, upv_s]; exact ho
    · rw [upv_o _ _ c]; exact (h6 j (by omega)).1
  · show upv G.2.2.1 k G.2.2.2.1.1 j ≤ G.2.2.2.1.1
    by_cases c : j = k
    · rw [c, upv_s]; exact Nat.le_refl _
    · rw [upv_o _ _ c]; exact (h6 j (by omega)).2
  · show upv G.2.2.1 k G.2.2.2.1.1 j ≤ upv G.2.2.1 k G.2.2.2.1.1 (j + 1)
    rw [upv_o _ _ (show j ≠ k by omega)]
    by_cases c : j + 1 = k
    · rw [c, upv_s]; exact (h6 j (by omega)).2
    · rw [upv_o _ _ c]; exact h7 j (by omega)
theorem GI.gj {E : List En} {k : Nat} {G : Gsh} (h : GI E k G) : GJ E (k + 1) G := by
  obtain ⟨h1, h2, h3, h4, h5, h6, h7, h8, h9⟩ := h
  exact ⟨by omega, by omega, h2, h3, h4, h5, fun j hj => h6 j (by omega), fun j hj => h7 j (by omega), h8, h9⟩
section RSE
variable {N g n k : Nat} {σ σ0 σ' : st_S} {D : Nat → Nat → Int32} {w : List (Nat × Nat × Nat)} {l : List Int32} {X : Tx} {fa : Nat → Nat} {vs nx : Vl} {T tg : Tr} {i sc q pl : Nat} {c : It} {v : Int64 × Int64} {a : Int64} {G : Gsh}
theorem Vr.vv (h : Vr X.1 vs) (ho : Vok X.1) : Vv X.1 vs := fun j hj s => ho j hj s _ (h j hj s).1 (h j hj s).2
theorem RT.cx (h : RT g l w X n D fa σ) (hc : X.2.2.reverse[i]? = some c) : CXr g l w X n D fa i (nsc (X.2.2.drop (X.2.2.length - i))) c := by
  obtain ⟨t1, t2, t3, t4, t5, t6, t7, t8⟩ := id h
  have lt := rev_lt hc
  have n60 := t7.2.2.2.2.2.1
  have co := t6.at' hc
  exact ⟨by omega, co.2.2.2.2.1, nsc_d hc, fun s hs => hs.2.2.2.2.2.1.at' hc⟩
/-- the rules of a text give values -/
theorem RT.okr (h : RT g l w X n D fa σ) (hp : RTp l w X n) (hv : Vv X.1 vs) {kd a : Nat} (hR : RuR l w X.1 fa D n kd T a) (hk : kd ≠ 0) {v : Int64 × Int64} (he : exv l w X.1 vs T = .inr v) : okv kd v := by
  obtain ⟨t1, t2, t3, -⟩ := h
  obtain ⟨r1, r2, r3, r4, r5, -⟩ := hR
  exact evl_ok (co := false) hp.2.1 (fun j hj _ => fvn_okv hp.2.1 hp.2.2.1 hv (fun j hj s => ⟨(t2.2.2.2.1 j hj s).2.2.2.1, (t2.2.2.2.1 j hj s).2.2.2.2.2.2⟩) (fun j hj => ⟨(t3 j hj).1, (t3 j hj).2.1⟩) j hj) T false kd v r1 r5 hk he
theorem RT.cmv (h : RT g l w X n D fa σ) (hp : RTp l w X n) (ho : Vok X.1) : ∀ c ∈ X.2.2, CmV l w X.1 c ∧ (bsr c.2.2).length ≤ 8 := by
  intro c hc
  obtain ⟨i, hi⟩ := List.getElem?_of_mem (List.mem_reverse.mpr hc)
  have co := h.2.2.2.2.2.1.at' hi
  obtain ⟨-, -, -, -, b8, br⟩ := co
  refine ⟨fun b hb => ?_, b8⟩
  obtain ⟨q, hq⟩ := List.getElem?_of_mem (List.mem_reverse.mpr hb)
  obtain ⟨⟨⟨ra, r1, r2⟩, r3, r4, r5⟩, -⟩ := br.at' hq
  refine ⟨fun T hT => ?_, fun vs hvs => ⟨fun v hv => h.okr hp (hvs.vv ho) r2 (by decide) hv, fun T hT v hv => ?_⟩⟩
  · obtain ⟨s, hs⟩ := List.getElem?_of_mem (List.mem_reverse.mpr hT)
    obtain ⟨a, kd, ⟨j, j1, j2, -⟩, -⟩ := r5.at' hs
    exact ⟨j, j1, j2⟩
  · obtain ⟨s, hs⟩ := List.getElem?_of_mem (List.mem_reverse.mpr hT)
    obtain ⟨a, kd, ⟨j, j1, j2, j3, j4⟩, -, -, z⟩ := r5.at' hs
    exact okv_9 (h.okr hp (hvs.vv ho) z (by rw [j4]; unfold kdn; split <;> decide) hv)
/-- the commands of a state -/
theorem L211 (H : XG N g l w X n σ0) (hi : Vij X.1) (ho : Vok X.1) (hvs : Vr X.1 vs) : ∀ (Cs : List It) (i : Nat) (σ : st_S) (G : Gsh), X.2.2.reverse.drop i = Cs → i + Cs.length = X.2.2.length → RXs g l w X n D fa vs σ0 σ → RGh σ (cnt X.1 3) k G → GI X.1 k G → match xcs l w X.1 (cnt X.1 3) vs k i Cs G with
    | .inl e => ∃ σ', (∀ f, L_211 N g (f + Cs.length + 1) (nI k) (nI i) σ = some σ') ∧ XFl g l w X n D fa σ0 e σ'
    | .inr G' => ∃ σ', (∀ f, L_211 N g (f + Cs.length + 1) (nI k) (nI i) σ = some σ') ∧ RXs g l w X n D fa vs σ0 σ' ∧ RGh σ' (cnt X.1 3) k G' := by
  have hv := hvs.vv ho
  have hg := H.1
  intro Cs
  induction Cs with
  | nil =>
    intro i σ G hd hq h hG hI
    have hq : i = X.2.2.length := hq
    refine ⟨σ, fun f => ?_, h, hG⟩
    unfold L_211
    rw [show gI σ g 18 = nI X.2.2.length from h.1.1.2.2.2.2.2.2.1.2.2.1, hq, if_pos (Int32.le_refl _)]
  | cons c Cs ih =>
    intro i σ G hd hq h hG hI
    rw [List.length_cons] at hq
    have hT : X.2.2.reverse[i]? = some c := by
      have : (X.2.2.reverse.drop i)[0]? = some c := by rw [hd]; rfl
      rw [List.getElem?_drop] at this
      exact this
    have hd' : X.2.2.reverse.drop (i + 1) = Cs := by rw [← List.drop_drop, hd]; rfl
    have cx := h.1.1.cx hT
    obtain ⟨i60, b8, bs, hco⟩ := id cx
    obtain ⟨cv, -⟩ := h.1.1.cmv H.2.2.2.1 ho c (List.mem_reverse.mp (List.mem_of_getElem? hT))
    obtain ⟨-, -, ⟨ga, o24, o24'⟩, -⟩ := hco σ h.1.1
    have n60 : X.2.2.length ≤ 60 := h.1.1.2.2.2.2.2.2.1.2.2.2.2.2.1
    have e18 : ∀ s, RX0 g l w X n D fa σ0 s → gI s g 18 = nI X.2.2.length := fun s hs => hs.1.2.2.2.2.2.2.1.2.2.1
    have l24 : gN σ (g + 24) = 60 := h.1.1.2.2.2.1.2.2.1 _ (by omega) (by omega)
    have K := rx_ev H hv h o24'
    have st : ∀ f s, F_213 N g (nI ga) σ = some s → RX0 g l w X n D fa σ0 s → L_211 N g (f + 1) (nI k) (nI i) σ = (if (gI s 66 16) = 0 then
            if (lg_cmp (gL s 163 0) 1) = 0 then
              (F_214 N g (nI k) (nI i) s).bind fun p_17 =>
              L_211 N g f (nI k) (nI (i + 1)) (p_17)
            else
              L_211 N g f (nI k) (nI (i + 1)) s
          else
            L_211 N g f (nI k) (nI (i + 1)) s) := fun f s hs hs0 => by
      have l63 : gN s 163 = 16400 := hs0.1.2.2.2.1.2.2.2.2.1
      conv => lhs; unfold L_211
      rw [e18 σ h.1, if_neg (nle_nI (by omega) (by omega)), if_pos h.2.1, if_pos (by rw [l24]; exact aB_nI i60 (by decide)), nI_clamp (by omega), o24, hs, ob_some, if_pos (show aB 0 (gN s 163) by rw [l63]; exact aB_0 (by decide) (by decide)), cl0, nI_1]
    have fin : ∀ s e, XFl g l w X n D fa σ0 e s → ∀ f, L_211 N g (f + 1) (nI k) (nI (i + 1)) s = some s := fun s e hs f => by
      unfold L_211
      rw [if_neg hs.ne]
      split <;> rfl
    unfold xcs xco
    cases hev : exv l w X.1 vs (gdr c.2.2) with
    | inl e =>
      rw [hev] at K
      rw [sbd_l, sbd_l]
      obtain ⟨s, k1, k2, k3, k4, k5⟩ := K
      have xf : XFl g l w X n D fa σ0 e s := ⟨by have := h.1.1.er o24' hev; omega, k2, k3, k4⟩
      refine ⟨s, fun f => ?_, xf⟩
      rw [List.length_cons, show f + (Cs.length + 1) + 1 = f + Cs.length + 1 + 1 by omega, st _ s k1 k4, if_neg xf.ne]
      exact fin s e xf _
    | inr v =>
      rw [hev] at K
      rw [sbd_r]
      obtain ⟨ok, s, k1, k2, k3, k4, k5⟩ := K
      have Gs : RGh s (cnt X.1 3) k G := ⟨hG.1.fr k5 (by simp) (by simp), hG.2.1.fr k5 (by simp) (by simp) (by simp), hG.2.2.1.fr k5 (by simp) (by simp), hG.2.2.2.fr k5 (by simp) (by simp) (by simp) (by simp)⟩
      by_cases c1 : v.1 = 1
      · rw [if_pos c1]
        have M := F214 H hvs hv cx cv k4 Gs hI
        have st1 : ∀ f, L_211 N g (f + 1) (nI k) (nI i) σ = (F_214 N g (nI k) (nI i) s).bind fun p => L_211 N g f (nI k) (nI (i + 1)) p := fun f => by
          rw [st f s k1 k4.1, if_pos k4.2.1, k2, if_pos ((ceq _ _).mpr c1)]
        cases hx : xcm l w X.1 (cnt X.1 3) vs k i c G with
        | inl e =>
          rw [hx] at M
          rw [sbd_l]
          obtain ⟨s', m1, m2⟩ := M
          refine ⟨s', fun f => ?_, m2⟩
          rw [List.length_cons, show f + (Cs.length + 1) + 1 = f + Cs.length + 1 + 1 by omega, st1, m1, ob_some]
          exact fin s' e m2 _
        | inr G1 =>
          rw [hx] at M
          rw [sbd_r]
          obtain ⟨s', m1, m2, m3⟩ := M
          have I1 := (xcm_ok hi hvs cv b8 hI hx).1
          have I := ih (i + 1) s' G1 hd' (by omega) m2 m3 I1
          cases hx2 : xcs l w X.1 (cnt X.1 3) vs k (i + 1) Cs G1 with
          | inl e =>
            rw [hx2] at I
            obtain ⟨s2, i1, i2⟩ := I
            refine ⟨s2, fun f => ?_, i2⟩
            rw [List.length_cons, show f + (Cs.length + 1) + 1 = f + Cs.length + 1 + 1 by omega, st1, m1, ob_some, i1]
          | inr G2 =>
            rw [hx2] at I
            obtain ⟨s2, i1, i2⟩ := I
            refine ⟨s2, fun f => ?_, i2⟩
            rw [List.length_cons, show f + (Cs.length + 1) + 1 = f + Cs.length + 1 + 1 by omega, st1, m1, ob_some, i1]
      · rw [if_neg c1, sbd_r]
        have st1 : ∀ f, L_211 N g (f + 1) (nI k) (nI i) σ = L_211 N g f (nI k) (nI (i + 1)) s := fun f => by
          rw [st f s k1 k4.1, if_pos k4.2.1, k2, if_neg (fun z => c1 ((ceq _ _).mp z))]
        have I := ih (i + 1) s G hd' (by omega) k4 Gs hI
        cases hx2 : xcs l w X.1 (cnt X.1 3) vs k (i + 1) Cs G with
        | inl e =>
          rw [hx2] at I
          obtain ⟨s2, i1, i2⟩ := I
          refine ⟨s2, fun f => ?_, i2⟩
          rw [List.length_cons, show f + (Cs.length + 1) + 1 = f + Cs.length + 1 + 1 by omega, st1, i1]
        | inr G2 =>
          rw [hx2] at I
          obtain ⟨s2, i1, i2⟩ := I
          refine ⟨s2, fun f => ?_, i2⟩
          rw [List.length_cons, show f + (Cs.length + 1) + 1 = f + Cs.length + 1 + 1 by omega, st1, i1]
/-- a state -/
theorem F211 (H : XG N g l w X n σ0) (hi : Vij X.1) (ho : Vok X.1) (htg : X.2.1 = some tg) (h : RX0 g l w X n D fa σ0 σ) (hf : gI σ 66 16 = 0) (hk : k < G.1.1) (hG : RGk σ (cnt X.1 3) k G) (hJ : GJ X.1 k G) : match xen l w X.1 (cnt X.1 3) k tg X.2.2.reverse G with
    | .inl e => ∃ σ', F_211 N g (nI k) σ = some σ' ∧ XFl g l w X n D fa σ0 e σ'
    | .inr G' => ∃ σ', F_211 N g (nI k) σ = some σ' ∧ RX0 g l w X n D fa σ0 σ' ∧ gI σ' 66 16 = 0 ∧ RGk σ' (cnt X.1 3) (k + 1) G' ∧ GJ X.1 (k + 1) G' := by
  have hg := H.1
  have hN : 1000000 < N := H.2.1
  have hvs : Vr X.1 (G.1.2 k) := hJ.2.2.2.1 k hk
  have k512 : k < 512 := by have := hJ.2.2.1; omega
  have C4 : G.2.2.2.1.1 ≤ 4096 := by have := hJ.2.2.2.2.1; have := hJ.2.2.2.2.2.1; omega
  obtain ⟨x1, x2, x3, x4, x5, x6, x7, x8, x9, x10, x11, x12⟩ := id h.2.2.1
  obtain ⟨c1, c2, c3, c4, c5, c6, c7, c8, c9⟩ := id h.1.2.2.2.2.2.2.1
  obtain ⟨s1, a1, a2, a3, a4, a5⟩ := F212 (N := N) (g := g) (k := k) (by omega) c5 k512 c4 c2 c1 x3 x1 x2
  obtain ⟨gP, gS, gC, gB⟩ := hG
  obtain ⟨s2, es2⟩ : ∃ s2, st_e (st_e (st_e s1 172 k 0) 173 k (nI G.2.2.2.1.1)) 174 k 0 = s2 := ⟨_, rfl⟩
  have f2 : Fr 0 [] [] [] [172, 173, 174] [] s1 s2 := by rw [← es2]; exact Fr.t0 (Fr.e _ _ _ (by simp)) (Fr.t0 (Fr.e _ _ _ (by simp)) (Fr.e _ _ _ (by simp)))
  have n2 : gN s2 = gN σ := by rw [← es2]; exact a3
  have f12 : Fr 0 [] [] [] [167, 168, 172, 173, 174] [] σ s2 := Fr.t0 (a2.mo (by simp) (by simp) (by simp) (by intro a q; simp only [List.mem_cons, List.not_mem_nil, or_false] at q ⊢; omega) (by simp)) (f2.mo (by simp) (by simp) (by simp) (by intro a q; simp only [List.mem_cons, List.not_mem_nil, or_false] at q ⊢; omega) (by simp))
  have r0 : RX0 g l w X n D fa σ0 s2 := h.eq hg (f12.mo (by simp) (by simp) (by simp) (by intro a q; simp only [List.mem_cons, List.not_mem_nil, or_false] at q ⊢; omega) (by simp)) n2 (f12.1 _ _ (by simp)) (f12.2.2.2.1 166 (by simp)).2
  have P2 : RPt s2 (cnt X.1 3) G.1 := gP.fr f12 (by simp) (by simp)
  have C2 : RCm s2 G.2.2.2.1 G.2.2.2.2.1 := gC.fr f12 (by simp) (by simp)
  have B2 : RBr s2 G.2.2.2.2 := gB.fr f12 (by simp) (by simp) (by simp) (by simp)
  have rx : RXs g l w X n D fa (G.1.2 k) σ0 s2 := by
    refine ⟨r0, (f12.1 _ _ (by simp)).trans hf, fun u hu => ?_, by rw [n2]; exact x2, fun j hj s => Or.inl ?_⟩
    · rw [(f2.2.2.2.1 167 (by simp)).2, a4 u hu]
      exact gP.2.2.2.2 k hk u hu
    · rw [(f2.2.2.2.1 168 (by simp)).2]
      exact a5 _ (h.1.2.1.2.2.1 j hj (by omega))
  have S2 : RSt s2 k (upv G.2.1 k 0) (upv G.2.2.1 k G.2.2.2.1.1) G.2.2.2.1.1 := by
    intro j hj
    have q72 : gE s2 172 j = if j = k then 0 else gE s1 172 j := by
      rw [← es2, gE_e, if_neg (fun z => absurd z.1 (by decide)), gE_e, if_neg (fun z => absurd z.1 (by decide)), gE_e]
      by_cases c : j = k
      · rw [if_pos ⟨rfl, c⟩, if_pos c]
      · rw [if_neg (fun z => c z.2), if_neg c]
    have q73 : gE s2 173 j = if j = k then nI G.2.2.2.1.1 else gE s1 173 j := by
      rw [← es2, gE_e, if_neg (fun z => absurd z.1 (by decide)), gE_e]
      by_cases c : j = k
      · rw [if_pos ⟨rfl, c⟩, if_pos c]
      · rw [if_neg (fun z => c z.2), if_neg c, gE_e, if_neg (fun z => absurd z.1 (by decide))]
    have q74 : gE s2 174 j = if j = k then 0 else gE s1 174 j := by
      rw [← es2, gE_e]
      by_cases c : j = k
      · rw [if_pos ⟨rfl, c⟩, if_pos c]
      · rw [if_neg (fun z => c z.2), if_neg c, gE_e, if_neg (fun z => absurd z.1 (by decide)), gE_e, if_neg (fun z => absurd z.1 (by decide))]
    rw [q72, q73, q74]
    by_cases cj : j = k
    · subst cj
      rw [if_pos rfl, if_pos rfl, if_pos rfl, if_pos rfl, upv_s, upv_s, Nat.sub_self]
      exact ⟨rfl, rfl, rfl⟩
    · obtain ⟨y1, y2, y3⟩ := gS j (by omega)
      rw [if_neg cj, if_neg cj, if_neg cj, if_neg cj, upv_o _ _ cj, upv_o _ _ cj, (a2.2.2.2.1 172 (by simp)).2, (a2.2.2.2.1 173 (by simp)).2, (a2.2.2.2.1 174 (by simp)).2]
      refine ⟨y1, y2, ?_⟩
      by_cases cj2 : j + 1 = k
      · rw [cj2, upv_s]
        rw [if_pos cj2] at y3
        exact y3
      · rw [upv_o _ _ cj2]
        rw [if_neg cj2] at y3
        exact y3
  have tgn := r0.1.2.2.2.2.1
  rw [htg] at tgn
  obtain ⟨ta, t1, t2⟩ := tgn
  have i17 : gI s1 g 17 = nI ta := by rw [← f2.1 g 17 (by simp)]; exact t1
  have i175 : gI s1 175 1 = nI G.2.2.2.1.1 := by rw [← f2.1 175 1 (by simp)]; exact C2.1.1
  have x4' : gN s1 172 = 512 := by rw [a3]; exact x4
  have x5' : gN s1 173 = 512 := by rw [a3]; exact x5
  have x6' : gN s1 174 = 512 := by rw [a3]; exact x6
  have ck : (nI k).toNatClampNeg = k := nI_clamp (by omega)
  have st : F_211 N g (nI k) σ = (F_213 N g (nI ta) s2).bind fun p_5 =>
      if (gI p_5 66 16) = 0 then
        if aB 0 (gN p_5 163) then
        if (lg_cmp (gL (p_5) 163 (0 : Int32).toNatClampNeg) 1) = 0 then
          if aB (nI k) (gN p_5 172) then
          some (st_e (p_5) 172 (nI k).toNatClampNeg 3)
          else none
        else
          L_211 N g N (nI k) 0 (p_5)
        else none
      else
        some (p_5) := by
    unfold F_211
    rw [a1, ob_some, if_pos (by rw [x4']; exact aB_nI k512 (by decide)), if_pos (by rw [x5']; exact aB_nI k512 (by decide)), if_pos (by rw [x6']; exact aB_nI k512 (by decide)), i17, i175, show st_e (st_e (st_e s1 172 (nI k).toNatClampNeg 0) 173 (nI k).toNatClampNeg (nI G.2.2.2.1.1)) 174 (nI k).toNatClampNeg 0 = s2 by rw [ck]; exact es2]
  have K := rx_ev H (hvs.vv ho) rx t2
  rw [st]
  unfold xen
  cases hev : exv l w X.1 (G.1.2 k) tg with
  | inl e =>
    rw [hev] at K
    rw [sbd_l]
    obtain ⟨s, k1, k2, k3, k4, k5⟩ := K
    have xf : XFl g l w X n D fa σ0 e s := ⟨by have := r0.1.er t2 hev; omega, k2, k3, k4⟩
    refine ⟨s, ?_, xf⟩
    rw [k1, ob_some, if_neg xf.ne]
  | inr v =>
    rw [hev] at K
    rw [sbd_r]
    obtain ⟨ok, s, k1, k2, k3, k4, k5⟩ := K
    have l63 : gN s 163 = 16400 := k4.1.1.2.2.2.1.2.2.2.2.1
    have l72 : gN s 172 = 512 := k4.1.2.2.1.2.2.2.1
    have P3 : RPt s (cnt X.1 3) G.1 := P2.fr k5 (by simp) (by simp)
    have C3 : RCm s G.2.2.2.1 G.2.2.2.2.1 := C2.fr k5 (by simp) (by simp)
    have B3 : RBr s G.2.2.2.2 := B2.fr k5 (by simp) (by simp) (by simp) (by simp)
    have S3 := S2.fr k5 (by simp) (by simp) (by simp)
    have last : ∀ {s : st_S} {G' : Gsh}, RGh s (cnt X.1 3) k G' → RGk s (cnt X.1 3) (k + 1) G' := fun {s G'} z => ⟨z.1, fun j hj => by
      obtain ⟨y1, y2, y3⟩ := z.2.1 j (by omega)
      refine ⟨y1, y2, ?_⟩
      by_cases cj : j = k
      · rw [if_pos (by omega)]
        rw [if_pos cj] at y3
        exact y3
      · rw [if_neg (by omega)]
        rw [if_neg cj] at y3
        exact y3, z.2.2.1, z.2.2.2⟩
    by_cases c1 : v.1 = 1
    · rw [if_pos c1]
      have fr : Fr 0 [] [] [] [172] [] s (st_e s 172 k 3) := Fr.e _ _ _ (by simp)
      refine ⟨st_e s 172 k 3, ?_, k4.1.eq hg (fr.mo (by simp) (by simp) (by simp) (by simp) (by simp)) rfl rfl rfl, k4.2.1, last ⟨P3.fr fr (by simp) (by simp), fun j hj => ?_, C3.fr fr (by simp) (by simp), B3.fr fr (by simp) (by simp) (by simp) (by simp)⟩, (hJ.ow hk (by decide)).gj⟩
      · rw [k1, ob_some, if_pos k4.2.1, if_pos (by rw [l63]; exact aB_0 (by decide) (by decide)), cl0, k2, if_pos ((ceq _ _).mpr c1), if_pos (by rw [l72]; exact aB_nI k512 (by decide)), ck]
      · show gE (st_e s 172 k 3) 172 j = nI (upv G.2.1 k 3 j) ∧ gE (st_e s 172 k 3) 173 j = nI (upv G.2.2.1 k G.2.2.2.1.1 j) ∧ gE (st_e s 172 k 3) 174 j = nI ((if j = k then G.2.2.2.1.1 else upv G.2.2.1 k G.2.2.2.1.1 (j + 1)) - upv G.2.2.1 k G.2.2.2.1.1 j)
        obtain ⟨y1, y2, y3⟩ := S3 j hj
        rw [(fr.2.2.2.1 173 (by simp)).2, (fr.2.2.2.1 174 (by simp)).2, gE_e]
        refine ⟨?_, y2, y3⟩
        by_cases cj : j = k
        · rw [cj, if_pos ⟨rfl, rfl⟩, upv_s]; rfl
        · rw [if_neg (fun z => cj z.2), upv_o _ _ cj]
          rw [upv_o _ _ cj] at y1
          exact y1
    · rw [if_neg c1]
      have M := L211 (k := k) H hi ho hvs X.2.2.reverse 0 s (xbg k G) rfl (by rw [List.length_reverse]; omega) k4 ⟨P3, S3, C3, B3⟩ (hJ.ow hk (by decide))
      rw [List.length_reverse] at M
      have n60 : X.2.2.length ≤ 60 := c6
      have eN : ∀ s', (∀ f, L_211 N g (f + X.2.2.length + 1) (nI k) (nI 0) s = some s') → L_211 N g N (nI k) 0 s = some s' := fun s' z => by
        have := z (N - X.2.2.length - 1)
        rw [show N - X.2.2.length - 1 + X.2.2.length + 1 = N by omega] at this
        exact this
      cases hx : xcs l w X.1 (cnt X.1 3) (G.1.2 k) k 0 X.2.2.reverse (xbg k G) with
      | inl e =>
        rw [hx] at M
        obtain ⟨s', m1, m2⟩ := M
        refine ⟨s', ?_, m2⟩
        rw [k1, ob_some, if_pos k4.2.1, if_pos (by rw [l63]; exact aB_0 (by decide) (by decide)), cl0, k2, if_neg (fun z => c1 ((ceq _ _).mp z))]
        exact eN s' m1
      | inr G' =>
        rw [hx] at M
        obtain ⟨s', m1, m2, m3⟩ := M
        have I := (xcs_ok hi hvs X.2.2.reverse 0 (xbg k G) G' (fun c hc => r0.1.cmv H.2.2.2.1 ho c (List.mem_reverse.mp hc)) (hJ.ow hk (by decide)) hx).1
        refine ⟨s', ?_, m2.1, m2.2.1, last m3, I.gj⟩
        rw [k1, ob_some, if_pos k4.2.1, if_pos (by rw [l63]; exact aB_0 (by decide) (by decide)), cl0, k2, if_neg (fun z => c1 ((ceq _ _).mp z))]
        exact eN s' m1
end RSE
