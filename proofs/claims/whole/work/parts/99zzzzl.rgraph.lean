/-! the reference explores -/
/-- vars: numbers, begins -/
def Evx (E : List En) : Prop := (∀ v, v < cnt E 3 → ∃ j, j < E.length ∧ (E.getD j eN).2.1 = 3 ∧ vno E j = v) ∧ Vij E ∧ (∀ j, j < E.length → (E.getD j eN).2.1 = 3 → vno E j < cnt E 3) ∧ Vok E ∧ ∀ j, j < E.length → (E.getD j eN).2.1 = 3 → vlo E j ≤ vin E j ∧ vin E j ≤ vhi E j
theorem vi0_at {E : List En} (hi : Vij E) {j : Nat} (hj : j < E.length) (h3 : (E.getD j eN).2.1 = 3) : vi0 E (vno E j) = vin E j := by
  unfold vi0
  have ej : E.getD j eN = E[j] := by rw [List.getD_eq_getElem?_getD, List.getElem?_eq_getElem hj]; rfl
  cases h : E.find? (fun e => decide (e.2.1 = 3 ∧ e.2.2.2.2.2.2.1 = vno E j)) with
  | none =>
    have := List.find?_eq_none.mp h E[j] (List.getElem_mem hj)
    rw [← ej] at this
    exact absurd (decide_eq_true (show (E.getD j eN).2.1 = 3 ∧ (E.getD j eN).2.2.2.2.2.2.1 = vno E j from ⟨h3, rfl⟩)) this
  | some e =>
    have h1 : e.2.1 = 3 ∧ e.2.2.2.2.2.2.1 = vno E j := by
      have := List.find?_some h
      exact of_decide_eq_true this
    obtain ⟨i, hi'⟩ := List.getElem?_of_mem (List.mem_of_find?_eq_some h)
    have il := (List.getElem?_eq_some_iff.mp hi').1
    have ei : E.getD i eN = e := by rw [List.getD_eq_getElem?_getD, hi']; rfl
    have := hi i j il hj (by rw [ei]; exact h1.1) h3 (by unfold vno at h1 ⊢; rw [ei]; exact h1.2)
    subst this
    show e.2.2.2.2.2.1.2.2 = vin E i
    unfold vin
    rw [ei]
section RSF
variable {N g n k : Nat} {σ σ0 σ' : st_S} {D : Nat → Nat → Int32} {w : List (Nat × Nat × Nat)} {l : List Int32} {X : Tx} {fa : Nat → Nat} {T tg : Tr} {G : Gsh}
theorem L210i {V : Nat} (hV : V ≤ 12) : ∀ (r v : Nat) (s : st_S), v + r = V → gI s g 12 = nI V → gN s 171 = 6144 → gN s (g + 21) = 12 → g + 21 ≠ 171 → ∃ s', (∀ f, L_210 N g (f + r) 66 (nI v) s = L_210 N g f 66 (nI V) s') ∧ Fr 0 [] [] [] [171] [] s s' ∧ gN s' = gN s ∧ (∀ u, v ≤ u → u < V → gE s' 171 u = gE s (g + 21) u) ∧ (∀ u, u < v → gE s' 171 u = gE s 171 u) := by
  intro r
  induction r with
  | zero =>
    intro v s hv _ _ _ _
    rw [Nat.add_zero] at hv
    subst hv
    exact ⟨s, fun f => rfl, Fr.rf s, rfl, fun u h1 h2 => by omega, fun _ _ => rfl⟩
  | succ r ih =>
    intro v s hv h1 h2 h3 h4
    have st : ∀ f, L_210 N g (f + 1) 66 (nI v) s = L_210 N g f 66 (nI (v + 1)) (st_e s 171 v (gE s (g + 21) v)) := fun f => by
      conv => lhs; unfold L_210
      rw [if_pos rfl, h1, if_neg (nle_nI (by omega) (by omega)), if_pos (by rw [h3]; exact aB_nI (by omega) (by decide)), if_pos (by rw [h2]; exact aB_nI (by omega) (by decide)), nI_clamp (by omega), nI_1]
    obtain ⟨s', a1, a2, a3, a4, a5⟩ := ih (v + 1) (st_e s 171 v (gE s (g + 21) v)) (by omega) h1 h2 h3 h4
    refine ⟨s', fun f => by rw [← Nat.add_assoc, st, a1], Fr.t0 (Fr.e s v _ (by simp)) a2, a3, fun u z1 z2 => ?_, fun u z => ?_⟩
    · by_cases c : u = v
      · subst c
        rw [a5 u (by omega), gE_e, if_pos ⟨rfl, rfl⟩]
      · rw [a4 u (by omega) z2, gE_e, if_neg (by omega)]
    · rw [a5 u (by omega), gE_e, if_neg (by omega)]
/-- the end of exploring -/
def XEn (g : Nat) (l : List Int32) (w : List (Nat × Nat × Nat)) (X : Tx) (n : Nat) (D : Nat → Nat → Int32) (fa : Nat → Nat) (σ0 : st_S) (o : (Nat × Nat × Nat) ⊕ Gsh) (r : Option (Int32 × st_S)) : Prop := match o with
  | .inl e => (5 ≤ e.1 ∧ e.1 ≤ 13) ∧ ∃ σ', r = some (nI e.1, σ') ∧ gI σ' 66 30 = nI e.2.2 ∧ gI σ' 66 12 = nI e.2.1 ∧ gI σ' 66 29 = 0 ∧ RX0 g l w X n D fa σ0 σ'
  | .inr G' => ∃ σ', r = some (0, σ') ∧ gI σ' 66 30 = -1 ∧ gI σ' 66 12 = -1 ∧ RX0 g l w X n D fa σ0 σ' ∧ RGk σ' (cnt X.1 3) G'.1.1 G' ∧ GJ X.1 G'.1.1 G'
theorem L210a (H : XG N g l w X n σ0) (hi : Vij X.1) (ho : Vok X.1) (htg : X.2.1 = some tg) : ∀ (f k : Nat) (σ : st_S) (G : Gsh), k + f = 512 → RX0 g l w X n D fa σ0 σ → gI σ 66 16 = 0 → RGk σ (cnt X.1 3) k G → GJ X.1 k G → ∀ f', XEn g l w X n D fa σ0 (xal l w X.1 (cnt X.1 3) tg X.2.2.reverse f k G) (L_210 N g (f' + f + 2) 100 (nI k) σ) := by
  have hg := H.1
  have fin : ∀ (k : Nat) (σ : st_S) (G : Gsh), RX0 g l w X n D fa σ0 σ → gI σ 66 16 = 0 → RGk σ (cnt X.1 3) k G → GJ X.1 k G → ¬ k < G.1.1 → ∀ f', XEn g l w X n D fa σ0 (.inr G) (L_210 N g (f' + 1) 100 (nI k) σ) := by
    intro k σ G h hf hG hJ hk f'
    have ek : k = G.1.1 := by have := hJ.1; omega
    obtain ⟨s, es⟩ : ∃ s, st_i (st_i (st_i σ 66 30 (-1)) 66 12 (-1)) 66 29 (nI G.1.1) = s := ⟨_, rfl⟩
    have fr : Fr 0 [(66, 30), (66, 12), (66, 29)] [] [] [] [] σ s := by rw [← es]; exact Fr.t0 (Fr.i _ _ (by simp)) (Fr.t0 (Fr.i _ _ (by simp)) (Fr.i _ _ (by simp)))
    have n0 : gN s = gN σ := by rw [← es]; rfl
    refine ⟨s, ?_, by rw [← es]; rfl, by rw [← es]; rfl, h.eq hg (fr.mo (by intro a q; simp only [List.mem_cons, List.not_mem_nil, or_false] at q ⊢; rcases q with q | q | q <;> simp [q]) (by simp) (by simp) (by simp) (by simp)) n0 (fr.1 _ _ (by simp)) (fr.2.2.2.1 166 (by simp)).2, ?_, by rw [← ek]; exact hJ⟩
    · unfold L_210
      rw [if_neg (by decide), hG.1.1, ek, if_pos (Int32.le_refl _)]
      unfold J_210_126
      rw [hf, if_pos rfl, if_pos rfl, if_pos rfl, hG.1.1, es]
    · rw [← ek]
      refine ⟨⟨by rw [← es]; rfl, hG.1.2.1, hG.1.2.2.1, by rw [n0]; exact hG.1.2.2.2.1, fun k hk v hv => ?_⟩, fun j hj => ?_, hG.2.2.1.fr fr (by simp) (by simp), hG.2.2.2.fr fr (by simp) (by simp) (by simp) (by simp)⟩
      · rw [(fr.2.2.2.1 171 (by simp)).2]; exact hG.1.2.2.2.2 k hk v hv
      · rw [(fr.2.2.2.1 172 (by simp)).2, (fr.2.2.2.1 173 (by simp)).2, (fr.2.2.2.1 174 (by simp)).2]
        exact hG.2.1 j hj
  intro f
  induction f with
  | zero =>
    intro k σ G hk h hf hG hJ f'
    have := hJ.2.2.1
    exact fin k σ G h hf hG hJ (by omega) (f' + 1)
  | succ f ih =>
    intro k σ G hk h hf hG hJ f'
    unfold xal
    by_cases c : k < G.1.1
    · rw [if_pos c]
      have K := F211 H hi ho htg h hf c hG hJ
      have st : ∀ f', L_210 N g (f' + 1) 100 (nI k) σ = (F_211 N g (nI k) σ).bind fun p => L_210 N g f' 100 (nI (k + 1)) p := fun f' => by
        conv => lhs; unfold L_210
        have := hJ.2.2.1
        rw [if_neg (by decide), hG.1.1, if_neg (nle_nI c (by omega)), if_pos hf, nI_1]
      cases hx : xen l w X.1 (cnt X.1 3) k tg X.2.2.reverse G with
      | inl e =>
        rw [hx] at K
        obtain ⟨s, k1, k2⟩ := K
        obtain ⟨s', es⟩ : ∃ s', st_i (st_i (st_i s 66 30 (nI k)) 66 12 (nI e.2)) 66 29 0 = s' := ⟨_, rfl⟩
        have fr : Fr 0 [(66, 30), (66, 12), (66, 29)] [] [] [] [] s s' := by rw [← es]; exact Fr.t0 (Fr.i _ _ (by simp)) (Fr.t0 (Fr.i _ _ (by simp)) (Fr.i _ _ (by simp)))
        have n0 : gN s' = gN s := by rw [← es]; rfl
        refine ⟨k2.1, s', ?_, by rw [← es]; rfl, by rw [← es]; rfl, by rw [← es]; rfl, k2.2.2.2.eq hg (fr.mo (by intro a q; simp only [List.mem_cons, List.not_mem_nil, or_false] at q ⊢; rcases q with q | q | q <;> simp [q]) (by simp) (by simp) (by simp) (by simp)) n0 (fr.1 _ _ (by simp)) (fr.2.2.2.1 166 (by simp)).2⟩
        have k1' : nI (k + 1) - 1 = nI k := by
          have := nI_sub (a := k + 1) (b := 1) (by omega)
          rw [Nat.add_sub_cancel] at this
          exact this
        have eJ : J_210_126 N g (nI (k + 1)) s = some (nI e.1, s') := by
          unfold J_210_126
          rw [if_neg k2.ne, if_neg k2.ne, if_neg k2.ne, k2.2.1, k2.2.2.1, k1', es]
        rw [show f' + (f + 1) + 2 = f' + f + 1 + 1 + 1 by omega, st, k1, ob_some]
        unfold L_210
        rw [if_neg (by decide), if_neg k2.ne, eJ]
        split <;> rfl
      | inr G' =>
        rw [hx] at K
        obtain ⟨s, k1, k2, k3, k4, k5⟩ := K
        have I := ih (k + 1) s G' (by omega) k2 k3 k4 k5 f'
        rw [show f' + (f + 1) + 2 = f' + f + 2 + 1 by omega, st, k1, ob_some]
        exact I
    · rw [if_neg c]
      exact fin k σ G h hf hG hJ c _
/-- the reference explores a text -/
theorem Fr.i0 {I J R : List (Nat × Nat)} {A L : List Nat} {σ : st_S} {a k : Nat} {v : Int32} (h : gI σ a k = v) : Fr 0 I J R A L σ (st_i σ a k v) := by
  refine ⟨fun b j _ => ?_, fun _ _ _ => rfl, fun _ _ _ => rfl, fun _ _ => ⟨rfl, rfl⟩, fun _ _ => rfl, rfl, Po.of rfl rfl rfl rfl⟩
  rw [gI_i]
  by_cases c : b = a ∧ j = k
  · rw [if_pos c, c.1, c.2, h]
  · rw [if_neg c]
theorem F210 (H : XG N g l w X n σ) (hE : Evx X.1) (htg : X.2.1 = some tg) (h : RX0 g l w X n D fa σ σ) (h11 : ¬ gI σ 66 11 = 0) (h0 : gI σ 66 0 = 0) : XEn g l w X n D fa σ (xex l w X tg) (F_210 N g σ) := by
  have hg := H.1
  have hN : 1000000 < N := H.2.1
  obtain ⟨v1, v2, v3, v4, v5⟩ := hE
  obtain ⟨s1, es⟩ : ∃ s1, st_i (st_i (st_i (st_i (st_i (st_i (st_i σ 66 0 0) 66 29 1) 66 38 0) 175 1 0) 177 1 0) 179 1 0) 66 16 0 = s1 := ⟨_, rfl⟩
  have fr : Fr 0 [(66, 29), (66, 38), (175, 1), (177, 1), (179, 1), (66, 16)] [] [] [] [] σ s1 := by
    rw [← es]
    iterate 6 refine Fr.t0 ?_ (Fr.i _ _ (by simp))
    exact Fr.i0 h0
  have n1 : gN s1 = gN σ := by rw [← es]; rfl
  have r1 : RX0 g l w X n D fa σ s1 := h.eq hg (fr.mo (by intro a q; simp only [List.mem_cons, List.not_mem_nil, or_false] at q ⊢; rcases q with q | q | q | q | q | q <;> simp [q]) (by simp) (by simp) (by simp) (by simp)) n1 (fr.1 _ _ (by simp)) (fr.2.2.2.1 166 (by simp)).2
  obtain ⟨x1, x2, x3, x4, x5, x6, x7, x8, x9, x10, x11, x12⟩ := id r1.2.2.1
  obtain ⟨c1, c2, c3, c4, c5, c6, c7, c8, c9⟩ := id r1.1.2.2.2.2.2.2.1
  have l21 : gN s1 (g + 21) = 12 := r1.1.2.2.2.1.2.1 _ (by omega) (by omega)
  obtain ⟨s2, a1, a2, a3, a4, -⟩ := L210i (N := N) (g := g) c5 (cnt X.1 3) 0 s1 (by omega) c2 x3 l21 (by omega)
  have r2 : RX0 g l w X n D fa σ s2 := r1.eq hg (a2.mo (by simp) (by simp) (by simp) (by simp) (by simp)) a3 (a2.1 _ _ (by simp)) (a2.2.2.2.1 166 (by simp)).2
  have e0 : (if gI σ 66 11 = 0 then 1 else 0 : Int32) = 0 := if_neg h11
  have st : F_210 N g σ = L_210 N g (N - cnt X.1 3 - 1) 100 (nI 0) s2 := by
    unfold F_210
    rw [e0, if_pos (by decide), es]
    have := a1 (N - cnt X.1 3 - 1 + 1)
    rw [show N - cnt X.1 3 - 1 + 1 + cnt X.1 3 = N by omega] at this
    refine (show L_210 N g N 66 0 s1 = _ from this).trans ?_
    conv => lhs; unfold L_210
    rw [if_pos rfl, a2.1 g 12 (by simp), c2, if_pos (Int32.le_refl _)]
    rfl
  have bnd := fun a ha => (r2.2.2.2.2 a ha)
  have g2 : gI s2 66 29 = 1 ∧ gI s2 66 38 = 0 ∧ gI s2 175 1 = 0 ∧ gI s2 177 1 = 0 ∧ gI s2 179 1 = 0 ∧ gI s2 66 16 = 0 := by
    rw [a2.1 66 29 (by simp), a2.1 66 38 (by simp), a2.1 175 1 (by simp), a2.1 177 1 (by simp), a2.1 179 1 (by simp), a2.1 66 16 (by simp), ← es]
    exact ⟨rfl, rfl, rfl, rfl, rfl, rfl⟩
  obtain ⟨g29, g38, g75, g77, g79, g16⟩ := g2
  have G0 : RGk s2 (cnt X.1 3) 0 (G00 X.1) := by
    refine ⟨⟨g29, (show 1 ≤ 1 by decide), (show 1 ≤ 512 by decide), by rw [a3]; exact x3, fun k hk v hv => ?_⟩, fun j hj => absurd hj (Nat.not_lt_zero j), ⟨nf_0 g75 (bnd 176 (by omega)), nf_0 g77 (bnd 178 (by omega)), nf_0 g79 (bnd 180 (by omega))⟩, g38, (show 0 ≤ 4096 by decide), fun i hi => absurd hi (Nat.not_lt_zero i)⟩
    have hk : k < 1 := hk
    have : k = 0 := by omega
    subst this
    rw [Nat.mul_zero, Nat.zero_add, a4 v (Nat.zero_le _) hv]
    obtain ⟨j, j1, j2, j3⟩ := v1 v hv
    obtain ⟨m1, m2, m3, m4, m5⟩ := r1.1.2.1.2.1 j j1 j2
    show gE s1 (g + 21) v = vi0 X.1 v
    rw [← j3, vi0_at v2 j1 j2, show vno X.1 j = rnm X.1 j from m2.symm]
    exact m5
  have J0 : GJ X.1 0 (G00 X.1) := by
    refine ⟨(show 0 ≤ 1 by decide), (show 1 ≤ 1 by decide), (show 1 ≤ 512 by decide), fun j _ i hi s => ?_, (show 0 ≤ 0 by decide), (show 0 ≤ 4096 by decide), fun j hj => absurd hj (Nat.not_lt_zero j), fun j hj => absurd hj (Nat.not_lt_zero _), fun c hc => absurd hc (Nat.not_lt_zero c), fun c hc => absurd hc (Nat.not_lt_zero _)⟩
    show vlo X.1 i ≤ vi0 X.1 (vno X.1 i) ∧ vi0 X.1 (vno X.1 i) ≤ vhi X.1 i
    rw [vi0_at v2 hi s]
    exact v5 i hi s
  have L := L210a H v2 v4 htg 512 0 s2 (G00 X.1) (by omega) r2 g16 G0 J0 (N - cnt X.1 3 - 1 - 512 - 2)
  rw [show N - cnt X.1 3 - 1 - 512 - 2 + 512 + 2 = N - cnt X.1 3 - 1 by omega] at L
  rw [st]
  exact L
end RSF
