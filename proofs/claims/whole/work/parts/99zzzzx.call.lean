/-! the class explores: all states -/
/-- before the k-th state -/
def KSt0 (σ : st_S) (k : Nat) (ow cf : Nat → Nat) (C S : Nat) : Prop := (∀ j, j < k → gE σ 55 j = nI (ow j) ∧ gE σ 56 j = nI (cf j)) ∧ (1 ≤ k → gE σ 56 k = nI C) ∧ (∀ j, k ≤ j → j < S → gE σ 55 j = 0) ∧ (∀ y, y < 60 → ∃ m, m ≤ k ∧ gE σ 44 y = nI m) ∧ gI σ 62 8 = -1 ∧ gI σ 62 9 = -1
def KGk (σ : st_S) (V k : Nat) (G : Gsh) : Prop := KPt σ V G.1 ∧ KSt0 σ k G.2.1 G.2.2.1 G.2.2.2.1.1 G.1.1 ∧ KCm σ G.2.2.2.1 G.2.2.2.2.1 ∧ KBr σ G.2.2.2.2
section KQ
variable {N t n : Nat} {l : List Int32} {w : List (Nat × Nat × Nat)} {x : Tx} {X fs hs : Nat → Nat} {tge : Int32} {M M' : Nat → Nat → Int32} {vs nx : Vl} {σ σ' σ0 : st_S} {k i : Nat} {c : It} {G : Gsh} {T tg : Tr} {kd e : Nat}
theorem KM.ok (km : KM l w x X fs n tge hs M) (hnv : Nvk l w) (hv : Vv x.1 vs) (hR : RuK l w x.1 X fs n M kd T e) (hk : kd ≠ 0) {v : Int64 × Int64} (he : exv l w x.1 vs T = .inr v) : okv kd v := by
  obtain ⟨sf, cok, kn, -⟩ := km
  obtain ⟨a, m, r1, r2, r3, r4, r5, r6, r7, r8, r9, -⟩ := hR
  exact evl_ok (co := false) hnv (fun j hj _ => fvn_okv hnv cok hv (fun j hj z => ⟨(sf.2.1 j hj z).2.1, (sf.2.1 j hj z).2.2.2.2⟩) (fun j hj => by have := kn j hj; omega) j hj) T false kd v r9 r4 hk he
theorem SetsK.me : ∀ {S : List Tr} {p : Int32}, SetsK l w x.1 X fs n M p S → ∀ T ∈ S, ∃ j e, fnd l w x.1 (bw T - 3) = some j ∧ (x.1.getD j eN).2.1 = 3 ∧ RuK l w x.1 X fs n M (kdn (x.1.getD j eN)) T e := by
  intro S
  induction S with
  | nil => intro p _ T hT; cases hT
  | cons T' S ih =>
    intro p q T hT
    obtain ⟨i, e, -, -, -, -, -, ⟨j, j1, j2, j3⟩, q6⟩ := q
    rcases List.mem_cons.mp hT with z | z
    · rw [z]; exact ⟨j, e, j1, j2, j3⟩
    · exact ih q6 T z
theorem BrsK.me : ∀ {B : List (Tr × List Tr)} {p : Int32}, BrsK l w x.1 X fs n M p B → ∀ b ∈ B, (∃ e, RuK l w x.1 X fs n M 1 b.1 e) ∧ ∃ p', SetsK l w x.1 X fs n M p' b.2.reverse := by
  intro B
  induction B with
  | nil => intro p _ b hb; cases hb
  | cons b' B ih =>
    intro p q b hb
    obtain ⟨i, e, -, -, -, -, q5, q6, q7⟩ := q
    rcases List.mem_cons.mp hb with z | z
    · rw [z]; exact ⟨⟨e, q5⟩, _, q6⟩
    · exact ih q7 b z
theorem KM.cmv (km : KM l w x X fs n tge hs M) (hnv : Nvk l w) (ho : Vok x.1) (hc : c ∈ x.2.2) : CmV l w x.1 c := by
  obtain ⟨i, hi⟩ := List.getElem?_of_mem (List.mem_reverse.mpr hc)
  obtain ⟨-, -, -, -, br⟩ := km.2.2.2.2.2 i c hi
  intro b hb
  obtain ⟨⟨e, r⟩, p', ss⟩ := br.me b (List.mem_reverse.mpr hb)
  refine ⟨fun T hT => ?_, fun vs hvs => ⟨fun v hv => km.ok hnv (hvs.vv ho) r (by decide) hv, fun T hT v hv => ?_⟩⟩
  · obtain ⟨j, e, j1, j2, -⟩ := ss.me T (List.mem_reverse.mpr hT)
    exact ⟨j, j1, j2⟩
  · obtain ⟨j, e, j1, j2, j3⟩ := ss.me T (List.mem_reverse.mpr hT)
    exact okv_9 (km.ok hnv (hvs.vv ho) j3 (by unfold kdn; split <;> decide) hv)
theorem xco_ok {G' : Gsh} (hi : Vij x.1) (hvs : Vr x.1 vs) (hc : CmV l w x.1 c) (h8 : (bsr c.2.2).length ≤ 8) (hG : GI x.1 k G) (h : xco l w x.1 (cnt x.1 3) vs k i c G = .inr G') : GI x.1 k G' := by
  unfold xco at h
  obtain ⟨v, -, h2⟩ := sbd_i h
  split at h2
  · exact (xcm_ok hi hvs hc h8 hG h2).1
  · injection h2 with h2
    rw [← h2]; exact hG
/-- the commands of a state -/
theorem L114 (H : KGv N t n l w x) (hq : gC σ0 + 50000 < vz_M0) (hvs : Vr x.1 vs) (hw : ∀ c ∈ x.2.2, CmW c) : ∀ (Cs : List It) (i : Nat) (σ : st_S) (M : Nat → Nat → Int32) (G : Gsh), x.2.2.reverse.drop i = Cs → i + Cs.length = x.2.2.length → KXs t n l w x X fs tge hs vs σ0 σ M → KGh σ (cnt x.1 3) k G → GI x.1 k G → match xcs l w x.1 (cnt x.1 3) vs k i Cs G with
    | .inl e => ∃ σ', (∀ f, L_114 N t (f + Cs.length + 1) (nI k) (nI i) σ = some (nI e.1, σ')) ∧ KFl t n l w x X fs tge hs σ0 e σ'
    | .inr G' => ∃ σ' M', (∀ f, L_114 N t (f + Cs.length + 1) (nI k) (nI i) σ = some (0, σ')) ∧ KXs t n l w x X fs tge hs vs σ0 σ' M' ∧ KGh σ' (cnt x.1 3) k G' := by
  have hi := H.2.2.2.2.2.1
  have ho := H.2.2.2.2.2.2.2.1
  intro Cs
  induction Cs with
  | nil =>
    intro i σ M G hd hq' h hG hI
    have hq' : i = x.2.2.length := hq'
    refine ⟨σ, M, fun f => ?_, h, hG⟩
    unfold L_114
    rw [show gI σ t 10 = nI x.2.2.length from h.1.2.2.1.2.1.2.2.2.1, hq', if_pos (Int32.le_refl _)]
  | cons c Cs ih =>
    intro i σ M G hd hq' h hG hI
    rw [List.length_cons] at hq'
    have hT : x.2.2.reverse[i]? = some c := by
      have : (x.2.2.reverse.drop i)[0]? = some c := by rw [hd]; rfl
      rw [List.getElem?_drop] at this
      exact this
    have hd' : x.2.2.reverse.drop (i + 1) = Cs := by rw [← List.drop_drop, hd]; rfl
    have cm : c ∈ x.2.2 := List.mem_reverse.mp (List.mem_of_getElem? hT)
    have n60 := h.1.2.2.1.2.2.1.2.2
    have F := F118 H hq hvs hT (hw c cm) h hG hI
    have st : ∀ f, L_114 N t (f + 1) (nI k) (nI i) σ = (F_118 N t (nI k) (nI i) σ).bind fun p => if p.1 = 0 then L_114 N t f (nI k) (nI (i + 1)) p.2 else some (p.1, p.2) := fun f => by
      conv => lhs; unfold L_114
      rw [show gI σ t 10 = nI x.2.2.length from h.1.2.2.1.2.1.2.2.2.1, if_neg (nle_nI (by omega) (by omega)), nI_1]
    unfold xcs
    cases hx : xco l w x.1 (cnt x.1 3) vs k i c G with
    | inl e =>
      rw [hx] at F
      rw [sbd_l]
      obtain ⟨s, k1, k2⟩ := F
      refine ⟨s, fun f => ?_, k2⟩
      rw [List.length_cons, show f + (Cs.length + 1) + 1 = f + Cs.length + 1 + 1 by omega, st, k1, ob_some]
      dsimp only
      rw [if_neg k2.ne]
    | inr G1 =>
      rw [hx] at F
      rw [sbd_r]
      obtain ⟨s, M1, k1, k2, k3, k4⟩ := F
      have I := ih (i + 1) s M1 G1 hd' (by omega) k2 k4 (xco_ok hi hvs (h.1.1.cmv H.2.2.2.1 ho cm) (hw c cm).1 hI hx)
      have st1 : ∀ f, L_114 N t (f + 1) (nI k) (nI i) σ = L_114 N t f (nI k) (nI (i + 1)) s := fun f => by
        rw [st, k1, ob_some]
        dsimp only
        rw [if_pos rfl]
      cases hx2 : xcs l w x.1 (cnt x.1 3) vs k (i + 1) Cs G1 with
      | inl e =>
        rw [hx2] at I
        obtain ⟨s2, i1, i2⟩ := I
        refine ⟨s2, fun f => ?_, i2⟩
        rw [List.length_cons, show f + (Cs.length + 1) + 1 = f + Cs.length + 1 + 1 by omega, st1, i1]
      | inr G2 =>
        rw [hx2] at I
        obtain ⟨s2, M2, i1, i2⟩ := I
        refine ⟨s2, M2, fun f => ?_, i2⟩
        rw [List.length_cons, show f + (Cs.length + 1) + 1 = f + Cs.length + 1 + 1 by omega, st1, i1]
/-- a state -/
theorem F114 (H : KGv N t n l w x) (hq : gC σ0 + 50000 < vz_M0) (hw : ∀ c ∈ x.2.2, CmW c) (htg : x.2.1 = some tg) (h : KB0 t n l w x X fs tge hs σ0 σ) (hk : k < G.1.1) (hG : KGk σ (cnt x.1 3) k G) (hJ : GJ x.1 k G) : match xen l w x.1 (cnt x.1 3) k tg x.2.2.reverse G with
    | .inl e => ∃ σ', F_114 N t (nI k) σ = some (nI e.1, σ') ∧ KFl t n l w x X fs tge hs σ0 e σ'
    | .inr G' => ∃ σ', F_114 N t (nI k) σ = some (0, σ') ∧ KB0 t n l w x X fs tge hs σ0 σ' ∧ KGk σ' (cnt x.1 3) (k + 1) G' ∧ GJ x.1 (k + 1) G' := by
  have ht := H.1
  have hN : 1000000 < N := H.2.1
  have hn : n ≤ 24600 := H.2.2.1
  have hi := H.2.2.2.2.2.1
  have ho := H.2.2.2.2.2.2.2.1
  have hvs : Vr x.1 (G.1.2 k) := hJ.2.2.2.1 k hk
  have k512 : k < 512 := by have := hJ.2.2.1; omega
  have C4 : G.2.2.2.1.1 ≤ 4096 := by have := hJ.2.2.2.2.1; have := hJ.2.2.2.2.2.1; omega
  obtain ⟨⟨M, km, cs⟩, sq, ln, fx⟩ := id h
  obtain ⟨gP, gS, gC', gB⟩ := hG
  obtain ⟨w1, w2, w3, w4, w5, w6⟩ := gS
  obtain ⟨p1, p2, p3, ⟨p4, p4', p4'', p4b, p4c⟩, p5, p6, -⟩ := id gP
  have hV : cnt x.1 3 ≤ 12 := sq.2.2.1.1
  have e7 : gI σ t 7 = nI (cnt x.1 3) := sq.2.1.1
  obtain ⟨l10, l11, l12, l13, l14, l15, l43, l44, l45⟩ := id sq.1
  have k12 : nI k * 12 = nI (12 * k) := by
    show nI k * nI 12 = _
    rw [pk_mul, Nat.mul_comm]
  have ac : acB (gN σ 54) (gN σ 43) (nI (12 * k)) 0 (nI (cnt x.1 3)) := by
    refine ⟨fun z => ?_, by decide, fun z => ?_, ?_, ?_⟩
    · have := (nI_lti (b := 0) (by omega) (by decide)).mp z; omega
    · have := (nI_lti (b := 0) (by omega) (by decide)).mp z; omega
    · rw [nI_clamp (by omega), nI_clamp (by omega), p4]; omega
    · rw [cl0, nI_clamp (by omega), l43]; omega
  obtain ⟨s0, es0⟩ : ∃ s0, st_ac σ 54 (12 * k) 43 0 (cnt x.1 3) = s0 := ⟨_, rfl⟩
  obtain ⟨s2, es2⟩ : ∃ s2, st_e (st_e (st_i s0 42 5 (nI (k + 1))) 56 k (nI G.2.2.2.1.1)) 56 (k + 1) (nI G.2.2.2.1.1) = s2 := ⟨_, rfl⟩
  have f0 : Fr 0 [] [] [] [43] [] σ s0 := by rw [← es0]; exact ac_fr (by simp)
  have n0 : gN s0 = gN σ := by rw [← es0]; exact ac_N
  have f1 : Fr 0 [(42, 5)] [] [] [56] [] s0 s2 := by rw [← es2]; exact Fr.t0 (Fr.i _ _ (by simp)) (Fr.t0 (Fr.e _ _ _ (by simp)) (Fr.e _ _ _ (by simp)))
  have n2 : gN s2 = gN σ := by rw [← es2]; exact n0
  have f2 : Fr 0 [(42, 5)] [] [] [43, 56] [] σ s2 := Fr.t0 (f0.mo (by simp) (by simp) (by simp) (by simp) (by simp)) (f1.mo (by simp) (by simp) (by simp) (by simp) (by simp))
  have i5 : gI s2 42 5 = nI (k + 1) := by rw [← es2]; rfl
  have g56 : ∀ j, gE s2 56 j = if j = k + 1 then nI G.2.2.2.1.1 else if j = k then nI G.2.2.2.1.1 else gE σ 56 j := fun j => by
    rw [← es2, gE_e]
    by_cases c : j = k + 1
    · rw [if_pos ⟨rfl, c⟩, if_pos c]
    · rw [if_neg (fun z => c z.2), if_neg c, gE_e]
      by_cases c2 : j = k
      · rw [if_pos ⟨rfl, c2⟩, if_pos c2]
      · rw [if_neg (fun z => c2 z.2), if_neg c2]
        show gE s0 56 j = _
        rw [(f0.2.2.2.1 56 (by simp)).2]
  have g43 : ∀ u, u < cnt x.1 3 → gE s2 43 u = G.1.2 k u := fun u hu => by
    rw [(f1.2.2.2.1 43 (by simp)).2, ← es0, ac_E, if_pos ⟨Nat.zero_le _, by omega⟩, show 12 * k + (u - 0) = 12 * k + u by omega]
    exact p6 k hk u hu
  have ga : ∀ a, a ≠ 43 → a ≠ 56 → gE s2 a = gE σ a := fun a z1 z2 => (f2.2.2.2.1 a (by simp only [List.mem_cons, List.not_mem_nil, or_false]; omega)).2
  have gi : ∀ a j, a ≠ 42 → gI s2 a j = gI σ a j := fun a j z => f2.1 a j (by simp only [List.mem_cons, List.not_mem_nil, or_false, Prod.mk.injEq]; omega)
  have cs2 : CS s2 t n M := by
    obtain ⟨c1, c2, c3, c4⟩ := cs
    exact ⟨(gi _ _ (by omega)).trans c1, c2, fun c hc => by rw [n2]; exact c3 c hc, fun c hc j hj => by rw [ga _ (by omega) (by omega)]; exact c4 c hc j hj⟩
  have sq2 : SQ s2 t x.1 X fs tge x.2.2.length hs := by
    obtain ⟨b0, ⟨b1, b2, b3, b4, b5⟩, c, s5, s6, s7⟩ := sq
    unfold SQ LN
    rw [n2, gi t 7 (by omega), gi t 8 (by omega), gi t 9 (by omega), gi t 10 (by omega), gi t 11 (by omega), ga (t + 10) (by omega) (by omega), ga (t + 11) (by omega) (by omega), ga (t + 12) (by omega) (by omega), ga (t + 13) (by omega) (by omega), ga (t + 14) (by omega) (by omega), ga (t + 15) (by omega) (by omega)]
    exact ⟨b0, ⟨b1, b2, b3, b4, b5⟩, c, s5, s6, s7⟩
  have kx2 : KXs t n l w x X fs tge hs (G.1.2 k) σ0 s2 M := by
    refine ⟨⟨km, cs2, sq2, fun j hj z1 z2 => ?_, g43, k + 1, by omega, i5, fun y hy => ?_⟩, ln.eq n2, Fr.t0 fx (f2.mo (by simp) (by simp) (by simp) (by intro a z; simp only [List.mem_cons, List.not_mem_nil, or_false] at z ⊢; omega) (by simp))⟩
    · rw [ga 44 (by decide) (by decide), i5] at z2
      obtain ⟨m, m1, m2⟩ := w4 (X j) (km.1.2.1 j hj z1).1
      rw [m2] at z2
      have := (nI_eq (by omega) (by omega)).mp z2
      omega
    · rw [ga 44 (by decide) (by decide)]
      obtain ⟨m, m1, m2⟩ := w4 y hy
      exact ⟨m, by omega, m2⟩
  have P2 : KPt s2 (cnt x.1 3) G.1 := gP.fr2 f2 (by simp) (by simp) (by rw [n2]; exact ⟨rfl, rfl, rfl⟩)
  have C2 : KCm s2 G.2.2.2.1 G.2.2.2.2.1 := gC'.fr f2 (by simp) (by simp)
  have B2 : KBr s2 G.2.2.2.2 := gB.fr f2 (by simp) (by simp)
  have S2 : KSt s2 k (upv G.2.1 k 0) (upv G.2.2.1 k G.2.2.2.1.1) G.2.2.2.1.1 G.1.1 := by
    refine ⟨fun j hj => ?_, by rw [g56, if_pos rfl], fun j a1 a2 => by rw [ga 55 (by decide) (by decide)]; exact w3 j (by omega) a2, hk, i5, (gi 62 8 (by decide)).trans w5, (gi 62 9 (by decide)).trans w6⟩
    rw [ga 55 (by decide) (by decide), g56, if_neg (show ¬ j = k + 1 by omega)]
    by_cases cj : j = k
    · subst cj
      rw [if_pos rfl, upv_s, upv_s]
      exact ⟨w3 j (Nat.le_refl _) hk, rfl⟩
    · rw [if_neg cj, upv_o _ _ cj, upv_o _ _ cj]
      exact w1 j (by omega)
  obtain ⟨tg', e, t1, t2, t3⟩ := km.2.2.2.2.1
  have : tg' = tg := by rw [htg] at t1; injection t1 with t1; exact t1.symm
  subst this
  have i11 : gI s2 t 11 = nI e := sq2.2.1.2.2.2.2.trans t2
  have ck : (nI k).toNatClampNeg = k := nI_clamp (by omega)
  have st : F_114 N t (nI k) σ = (F_70 N t (nI e) s2).bind fun p_3 =>
      if p_3.1 = 0 then
        (F_117 N t (gI p_3.2 t 11) (p_3.2)).bind fun p_5 =>
        if p_5.1 = 0 then
          L_114 N t N (nI k) 0 (p_5.2)
        else
          if aB (nI k) (gN p_5.2 55) then
          some (0, st_e (p_5.2) 55 ((nI k).toNatClampNeg) 3)
          else none
      else
        (F_116 N p_3.1 (gI p_3.2 42 6) (p_3.2)).bind fun p_8 =>
        some (p_8.1, p_8.2) := by
    have i11' : gI (st_i s0 42 5 (nI (k + 1))) 52 11 = nI G.2.2.2.1.1 := by
      show gI s0 52 11 = _
      rw [f0.1 52 11 (by simp)]; exact gC'.1
    unfold F_114
    rw [e7, k12, if_pos ac, nI_1, cl0, nI_clamp (n := 12 * k) (by omega), nI_clamp (n := cnt x.1 3) (by omega), es0]
    have f15 : F_115 N (nI k) (st_i s0 42 5 (nI (k + 1))) = some s2 := by
      unfold F_115
      have n56 : gN (st_i s0 42 5 (nI (k + 1))) 56 = gN σ 55 + 1 := by show gN s0 56 = _; rw [n0]; exact p4'
      rw [nI_1, if_pos (by rw [n56]; exact aB_nI (by omega) (by omega)), if_pos (by rw [n56]; exact aB_nI (by omega) (by omega)), i11', ck, nI_clamp (by omega), es2]
    rw [f15, ob_some, i11]
  have K := ks_ev H (hvs.vv ho) kx2 t3 (by decide)
  rw [st]
  unfold xen
  cases hev : exv l w x.1 (G.1.2 k) tg' with
  | inl er =>
    rw [hev] at K
    rw [sbd_l]
    obtain ⟨s, k1, k2, k3⟩ := K
    refine ⟨_, ?_, k2⟩
    rw [k1, ob_some]
    dsimp only
    rw [if_neg k3]
    rfl
  | inr v =>
    rw [hev] at K
    rw [sbd_r]
    obtain ⟨ok, s, M1, k1, k2, k3, k4, k5⟩ := K
    have fM : ∀ y, 53 ≤ y → y ∉ [t + 7, t + 8, t + 9, 44, 45] := fun y z => by simp only [List.mem_cons, List.not_mem_nil, or_false]; omega
    have P3 : KPt s (cnt x.1 3) G.1 := P2.fr k5.1 (by simp) ⟨fM _ (by decide), fM _ (by decide), fM _ (by decide), fM _ (by decide)⟩ (by rw [k5.2.1])
    have C3 : KCm s G.2.2.2.1 G.2.2.2.2.1 := C2.fr k5.1 (by simp) ⟨fM _ (by decide), fM _ (by decide)⟩
    have B3 : KBr s G.2.2.2.2 := B2.fr k5.1 (by simp) ⟨fM _ (by decide), fM _ (by decide), fM _ (by decide)⟩
    have S3 := S2.fr k5.1 (fM _ (by decide)) (fM _ (by decide)) (by simp)
    have i11s : gI s t 11 = nI e := k2.1.2.2.1.2.1.2.2.2.2.trans t2
    have f17 := F117 (N := N) (kd := 2) k2 (t3.sta k4) k3 ok
    have last : ∀ {s : st_S} {M : Nat → Nat → Int32} {G' : Gsh}, KX t n l w x X fs tge hs (G.1.2 k) s M → KGh s (cnt x.1 3) k G' → KGk s (cnt x.1 3) (k + 1) G' := fun {s M G'} hx z => by
      obtain ⟨a1, ⟨b1, b2, b3, b4, b5, b6, b7⟩, a3, a4⟩ := z
      obtain ⟨-, -, -, -, -, sp, sp1, sp2, sp3⟩ := hx
      refine ⟨a1, ⟨fun j hj => b1 j (by omega), fun _ => b2, fun j y1 y2 => b3 j (by omega) y2, fun y hy => ?_, b6, b7⟩, a3, a4⟩
      rw [b5] at sp2
      have := (nI_eq (by omega) (by omega)).mp sp2
      obtain ⟨m, m1, m2⟩ := sp3 y hy
      exact ⟨m, by omega, m2⟩
    rw [k1, ob_some]
    dsimp only
    rw [if_pos rfl, i11s, f17, ob_some]
    dsimp only
    by_cases c1 : v.1 = 1
    · rw [if_pos c1, if_pos c1, if_neg (by decide)]
      have fr : Fr 0 [] [] [] [55] [] s (st_e s 55 k 3) := Fr.e _ _ _ (by simp)
      have kx4 : KXs t n l w x X fs tge hs (G.1.2 k) σ0 (st_e s 55 k 3) M1 := ⟨k2.1.fr ht fr (by simp) (by simp), k2.2.1.eq rfl, Fr.t0 k2.2.2 (fr.mo (by simp) (by simp) (by simp) (by simp) (by simp))⟩
      refine ⟨st_e s 55 k 3, ?_, kx4.b0, last kx4.1 ⟨P3.fr2 fr (by simp) (by simp) ⟨rfl, rfl, rfl⟩, ?_, C3.fr fr (by simp) (by simp), B3.fr fr (by simp) (by simp)⟩, (hJ.ow hk (by decide)).gj⟩
      · rw [if_pos (show aB (nI k) (gN s 55) from aB_nI (by have := P3.2.2.2.1.2.2.2.2; omega) (by have := P3.2.2.2.1.2.2.2.1; omega)), ck]
      · obtain ⟨b1, b2, b3, b4, b5⟩ := S3
        refine ⟨fun j hj => ?_, by rw [(fr.2.2.2.1 56 (by simp)).2]; exact b2, fun j y1 y2 => by rw [gE_e, if_neg (fun z => by omega)]; exact b3 j y1 y2, b4, b5.fr fr (by simp)⟩
        show gE (st_e s 55 k 3) 55 j = nI (upv G.2.1 k 3 j) ∧ gE (st_e s 55 k 3) 56 j = nI (upv G.2.2.1 k G.2.2.2.1.1 j)
        obtain ⟨y1, y2⟩ := b1 j hj
        rw [(fr.2.2.2.1 56 (by simp)).2, gE_e]
        refine ⟨?_, y2⟩
        by_cases cj : j = k
        · rw [cj, if_pos ⟨rfl, rfl⟩, upv_s]; rfl
        · rw [if_neg (fun z => cj z.2), upv_o _ _ cj]
          rw [upv_o _ _ cj] at y1
          exact y1
    · rw [if_neg c1, if_neg c1, if_pos rfl]
      have Z := L114 (k := k) H hq hvs hw x.2.2.reverse 0 s M1 (xbg k G) rfl (by rw [List.length_reverse]; omega) k2 ⟨P3, S3, C3, B3⟩ (hJ.ow hk (by decide))
      rw [List.length_reverse] at Z
      have n60 := sq.2.2.1.2.2
      have eN' : ∀ R, (∀ f, L_114 N t (f + x.2.2.length + 1) (nI k) (nI 0) s = R) → L_114 N t N (nI k) 0 s = R := fun R z => by
        have := z (N - x.2.2.length - 1)
        rw [show N - x.2.2.length - 1 + x.2.2.length + 1 = N by omega] at this
        exact this
      cases hx : xcs l w x.1 (cnt x.1 3) (G.1.2 k) k 0 x.2.2.reverse (xbg k G) with
      | inl e' =>
        rw [hx] at Z
        obtain ⟨s', m1, m2⟩ := Z
        exact ⟨s', eN' _ m1, m2⟩
      | inr G' =>
        rw [hx] at Z
        obtain ⟨s', M2, m1, m2, m3⟩ := Z
        have I := (xcs_ok hi hvs x.2.2.reverse 0 (xbg k G) G' (fun c hc => ⟨km.cmv H.2.2.2.1 ho (List.mem_reverse.mp hc), (hw c (List.mem_reverse.mp hc)).1⟩) (hJ.ow hk (by decide)) hx).1
        exact ⟨s', eN' _ m1, m2.b0, last m2.1 m3, I.gj⟩
end KQ
