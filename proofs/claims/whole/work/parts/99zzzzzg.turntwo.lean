/-! a turn with compile -/
section TU2
variable {N t g x n m c : Nat} {σ σ' σ'' : st_S} {l : List Int32} {L : Nat} {xs : Nat → Int32}
theorem ok_l (h : ∀ c ∈ l, Byt c) : Ok l := by
  intro j
  by_cases c : j < l.length
  · rw [ch_lt c]
    exact h _ (List.getElem_mem c)
  · refine ⟨0, by decide, ?_⟩
    unfold ch
    rw [List.getD_eq_getElem?_getD, List.getElem?_eq_none (by omega)]
    rfl
theorem room_c {A C P A0 C0 P0' c : Nat} (h2 : 16 * A + P0' ≤ 16 * A0 + P + 16 * c) (h3 : C + A0 ≤ C0 + A) (hC : C0 = 0) (hP : P ≤ 3000000) (hc : c ≤ 512) : C ≤ 188012 := by omega
theorem ph_3 {P a b c : Nat} (h : P ≤ 2900000 + a + b + c) (h1 : a ≤ 32768) (h2 : b ≤ 32768) (h3 : c ≤ 32768) : P ≤ 3000000 := by omega
theorem room_q (po : Po c (s0 L xs) σ) (hc : c ≤ 512) (h3 : Kst σ) (h4 : Rst σ) (a1 : gN σ 3 ≤ 32768) (a2 : gN σ 68 ≤ 32768) (a3 : gN σ 70 ≤ 32768) : gC σ ≤ 188012 := room_c po.2.1 po.2.2 rfl (ph_3 (ph_q h3 h4) a1 a2 a3) hc
/-- the class's compile -/
theorem kst_fb (ht : t = 4 ∨ t = 20) (h : Kst σ) (f : FB t σ σ') (nk : Nkp t σ σ') {Y : Xs} (hs : SJ σ' t Y) : Kst σ' := by
  obtain ⟨-, h2, h3, h4⟩ := h
  obtain ⟨L, hL, -, z2, z3, z4, z5, z6, -⟩ := hs
  have c6 := z6.2.2.2.2
  have o8 : ∀ s, s = 4 ∨ s = 20 → s ≠ t → gI σ' (s + 1) 8 = gI σ (s + 1) 8 := fun s hs z => f.1 _ _ (by simp only [List.mem_cons, List.not_mem_nil, or_false, Prod.mk.injEq]; omega)
  have cd : ∀ s, s = 4 ∨ s = 20 → ∃ n L, L ≤ 50000 ∧ Cd σ' s n L := fun s hs => by
    by_cases e : s = t
    · rw [e]; exact ⟨_, L, hL, z6⟩
    · obtain ⟨⟨n, L', hL', c1, c2, c3, c4, c5⟩, -⟩ := h2 s hs
      exact ⟨n, L', hL', (o8 s hs e).trans c1, c2, c3, c4, fun c hc => (nk _ (by omega) (by omega)).trans (c5 c hc)⟩
  refine ⟨⟨_, z2, z3, z4, z5⟩, fun s hs => ⟨cd s hs, ?_⟩, ?_, ?_⟩
  · obtain ⟨-, l10, l11, l12, l13, l14, l15, l43, l44, l45⟩ := h2 s hs
    exact ⟨(nk _ (by omega) (by omega)).trans l10, (nk _ (by omega) (by omega)).trans l11, (nk _ (by omega) (by omega)).trans l12, (nk _ (by omega) (by omega)).trans l13, (nk _ (by omega) (by omega)).trans l14, (nk _ (by omega) (by omega)).trans l15, (nk _ (by omega) (by omega)).trans l43, (nk _ (by omega) (by omega)).trans l44, (nk _ (by omega) (by omega)).trans l45⟩
  · exact ⟨(nk _ (by omega) (by omega)).trans h3.1, (nk _ (by omega) (by omega)).trans h3.2.1, (nk _ (by omega) (by omega)).trans h3.2.2.1, (nk _ (by omega) (by omega)).trans h3.2.2.2⟩
  · have e : ∀ a, 53 ≤ a → a ≤ 65 → gN σ' a = gN σ a := fun a y1 y2 => nk a (by omega) (by omega)
    obtain ⟨k1, k2, k3, k4, k5, k6, k7, k8, k9, k10, k11⟩ := h4
    have co : Col σ' := by
      obtain ⟨n1, L1, -, -, -, -, -, c1⟩ := cd 4 (Or.inl rfl)
      obtain ⟨n2, L2, -, -, -, -, -, c2⟩ := cd 20 (Or.inr rfl)
      have d4 : gN σ' 10 = L1 := c1 4 (by decide)
      have d5 : gN σ' 11 = L1 := c1 5 (by decide)
      have d6 : gN σ' 12 = L1 := c1 6 (by decide)
      have d7 : gN σ' 13 = L1 := c1 7 (by decide)
      have e4 : gN σ' 26 = L2 := c2 4 (by decide)
      have e5 : gN σ' 27 = L2 := c2 5 (by decide)
      have e6 : gN σ' 28 = L2 := c2 6 (by decide)
      have e7 : gN σ' 29 = L2 := c2 7 (by decide)
      exact ⟨⟨d5.trans d4.symm, d6.trans d4.symm, d7.trans d4.symm⟩, e5.trans e4.symm, e6.trans e4.symm, e7.trans e4.symm⟩
    unfold KLn
    rw [e 53 (by decide) (by decide), e 63 (by decide) (by decide), e 64 (by decide) (by decide), e 65 (by decide) (by decide), e 54 (by decide) (by decide), e 55 (by decide) (by decide), e 56 (by decide) (by decide), e 57 (by decide) (by decide), e 58 (by decide) (by decide), e 59 (by decide) (by decide), e 60 (by decide) (by decide), e 61 (by decide) (by decide)]
    exact ⟨k1, k2, k3, k4, k5, k6, k7, k8, k9, k10, co⟩
theorem rst_fb (ht : t = 4 ∨ t = 20) (h : Rst σ) (f : FB t σ σ') : Rst σ' := h.up (fun a k z => f.1 _ _ (by simp only [List.mem_cons, List.not_mem_nil, or_false, Prod.mk.injEq]; omega)) (fun a z1 z2 => (f.2.2.2.1 a (by simp only [List.mem_cons, List.not_mem_nil, or_false]; omega)).1) (fun a z => f.2.2.2.1 a (by simp only [List.mem_cons, List.not_mem_nil, or_false]; omega))
/-- the reference's compile -/
theorem rf_I (hg : g = 79 ∨ g = 115) (hx : x = 67 ∨ x = 69) (f : RFc g x σ σ') : ∀ a k, a < 66 → gI σ' a k = gI σ a k := fun a k z => f.1 _ _ (by simp only [RIf, List.mem_append, List.mem_cons, List.not_mem_nil, or_false, Prod.mk.injEq]; omega)
theorem rf_A (hg : g = 79 ∨ g = 115) (f : RFc g x σ σ') : ∀ a, a < 72 ∨ 168 < a → gN σ' a = gN σ a ∧ gE σ' a = gE σ a := fun a z => f.2.2.2.1 _ (by simp only [RAf, List.mem_append, List.mem_cons, List.not_mem_nil, or_false]; omega)
theorem kst_rf (hg : g = 79 ∨ g = 115) (hx : x = 67 ∨ x = 69) (h : Kst σ) (f : RFc g x σ σ') : Kst σ' := h.up (rf_I hg hx f _ _ (by decide)) (fun t ht => rf_I hg hx f _ _ (by omega)) (fun a _ z => (rf_A hg f a (by omega)).1) (fun a _ z => (rf_A hg f a (by omega)).2)
theorem rst_rf (hg : g = 79 ∨ g = 115) (hx : x = 67 ∨ x = 69) (h : Rst σ) (f : RFc g x σ σ') (hz : RZ σ' g) (hw : Ryw σ') : Rst σ' := by
  obtain ⟨h1, h2, h3, h4⟩ := h
  obtain ⟨z1, z2, y1, y2, y3, y4, y5, y6, y7, y8, y9, y10⟩ := id hz
  have oI : ∀ a k, g ≠ a → (194 - g ≤ a ∧ a ≤ 194 - g + 35) → gI σ' a k = gI σ a k := fun a k _ q => f.1 _ _ (by simp only [RIf, List.mem_append, List.mem_cons, List.not_mem_nil, or_false, Prod.mk.injEq]; omega)
  have oA : ∀ a, 194 - g ≤ a → a ≤ 194 - g + 35 → gN σ' a = gN σ a ∧ gE σ' a = gE σ a := fun a q1 q2 => f.2.2.2.1 _ (by simp only [RAf, List.mem_append, List.mem_cons, List.not_mem_nil, or_false]; omega)
  refine ⟨fun s hs => ?_, hw, ?_, fun a ha => ?_⟩
  · by_cases e : s = g
    · rw [e]; exact hz
    · have e : s = 194 - g := by omega
      obtain ⟨k1, k2, a1, a2, a3, a4, -⟩ := h1 s hs
      refine ⟨fun o ho => ?_, fun o ho => ?_, fun a p q => (oA a (by omega) (by omega)).1.trans (a1 a p q), fun a p q => (oA a (by omega) (by omega)).1.trans (a2 a p q), fun a p q => (oA a (by omega) (by omega)).1.trans (a3 a p q), fun a p q => (oA a (by omega) (by omega)).1.trans (a4 a p q), y5, y6, y7, y8, y9, y10⟩
      · by_cases q : o = 157 ∨ o = 159 ∨ o = 161 ∨ o = 165
        · exact z1 o (by simp only [List.mem_cons, List.not_mem_nil, or_false]; omega)
        · have ho' := ho
          simp only [List.mem_cons, List.not_mem_nil, or_false] at ho'
          obtain ⟨M, ⟨u1, u2, u3, u4⟩, u5⟩ := k1 o ho
          obtain ⟨e1, e2⟩ := oA (o + 1) (by omega) (by omega)
          exact ⟨M, ⟨(oI o 1 (by omega) (by omega)).trans u1, by rw [e1]; exact u2, by rw [e1]; exact u3, by rw [e2]; exact u4⟩, by rw [e1]; exact u5⟩
      · by_cases q : o = 151 ∨ o = 153 ∨ o = 155
        · exact z2 o (by simp only [List.mem_cons, List.not_mem_nil, or_false]; omega)
        · have ho' := ho
          simp only [List.mem_cons, List.not_mem_nil, or_false] at ho'
          rw [(oA (o + 1) (by omega) (by omega)).1]
          exact k2 o ho
  · obtain ⟨x1, x2, x3, x4, x5, x6, x7, x8, x9, x10, x11, x12⟩ := h3
    exact ⟨y7, y8, (rf_A hg f _ (by omega)).1.trans x3, (rf_A hg f _ (by omega)).1.trans x4, (rf_A hg f _ (by omega)).1.trans x5, (rf_A hg f _ (by omega)).1.trans x6, (rf_A hg f _ (by omega)).1.trans x7, (rf_A hg f _ (by omega)).1.trans x8, (rf_A hg f _ (by omega)).1.trans x9, (rf_A hg f _ (by omega)).1.trans x10, (rf_A hg f _ (by omega)).1.trans x11, (rf_A hg f _ (by omega)).1.trans x12⟩
  · rw [(rf_A hg f a (by omega)).1]
    exact h4 a ha
/-- a text that was refused on both sides -/
theorem qq_no (ht : t = 4 ∧ g = 79 ∨ t = 20 ∧ g = 115) (hx : x = 67 ∨ x = 69) (h : Qq σ) (p6 : gR σ 1 6 = t) (f : FB t σ σ') (nk : Nkp t σ σ') {Y : Xs} (hs : SJ σ' t Y) (f' : RFc g x σ' σ'') (hz : RZ σ'' g) (hw : Ryw σ'') (h12 : gR σ'' 66 1 = 136 - x ∧ gR σ'' 66 2 = x) (kp : RKp σ' σ'') (e9 : gI σ' 1 9 = gI σ'' 66 12) : Qq σ'' := by
  obtain ⟨h1, h2, h3, h4, ⟨r1, r2, r3, r4, r5⟩, ⟨h6, h7, h8⟩, h9⟩ := h
  have ht' : t = 4 ∨ t = 20 := by omega
  have hg : g = 79 ∨ g = 115 := by omega
  have k' := kst_fb ht' h3 f nk hs
  have i1 : ∀ a k, (a = 1 ∧ k ≠ 9) ∨ a = 52 ∨ a = 62 ∨ a = 24 - t ∨ (a = 25 - t ∧ k = 8) → gI σ'' a k = gI σ a k := fun a k z => (rf_I hg hx f' a k (by omega)).trans (f.1 _ _ (by simp only [List.mem_cons, List.not_mem_nil, or_false, Prod.mk.injEq]; omega))
  have iR : ∀ a k, a = 1 → gR σ'' a k = gR σ a k := fun a k z => (f'.2.2.1 a k (by simp only [List.mem_cons, List.not_mem_nil, or_false, Prod.mk.injEq]; omega)).trans (f.2.2.1 a k (by simp only [List.mem_cons, List.not_mem_nil, or_false, Prod.mk.injEq]; omega))
  have iR' : ∀ k, gR σ' 66 k = gR σ 66 k := fun k => f.2.2.1 66 k (by simp only [List.mem_cons, List.not_mem_nil, or_false, Prod.mk.injEq]; omega)
  have I' : ∀ a k, 62 ≤ a → gI σ' a k = gI σ a k := fun a k z => f.1 _ _ (by simp only [List.mem_cons, List.not_mem_nil, or_false, Prod.mk.injEq]; omega)
  have A' : ∀ a, 52 ≤ a → gN σ' a = gN σ a ∧ gE σ' a = gE σ a := fun a z => f.2.2.2.1 a (by simp only [List.mem_cons, List.not_mem_nil, or_false]; omega)
  have A1 : ∀ a, (52 ≤ a ∧ a < 72) ∨ 168 < a → gN σ'' a = gN σ a ∧ gE σ'' a = gE σ a := fun a z => ⟨(rf_A hg f' a (by omega)).1.trans (A' a (by omega)).1, (rf_A hg f' a (by omega)).2.trans (A' a (by omega)).2⟩
  have Lg : ∀ a, a ≠ 163 → a ≠ 164 → a ≠ 169 → a ≠ 170 → a ≠ g + 16 → a ≠ g + 17 → gL σ'' a = gL σ a := fun a z1 z2 z3 z4 z5 z6 => (f'.2.2.2.2.1 a (by simp only [RLf, List.mem_cons, List.not_mem_nil, or_false]; omega)).trans (f.2.2.2.2.1 a (by simp))
  have o9 : gR σ 66 9 = 194 - g := by
    rcases h1 with ⟨-, y2, y3, -⟩ | ⟨-, y2, y3, -⟩ <;> omega
  have oI : ∀ a k, 194 - g ≤ a → a ≤ 194 - g + 35 → gI σ'' a k = gI σ a k := fun a k q1 q2 => (f'.1 _ _ (by simp only [RIf, List.mem_append, List.mem_cons, List.not_mem_nil, or_false, Prod.mk.injEq]; omega)).trans (I' a k (by omega))
  have oA : ∀ a, 194 - g ≤ a → a ≤ 194 - g + 35 → gN σ'' a = gN σ a ∧ gE σ'' a = gE σ a := fun a q1 q2 => by
    have y := f'.2.2.2.1 a (by simp only [RAf, List.mem_append, List.mem_cons, List.not_mem_nil, or_false]; omega)
    exact ⟨y.1.trans (A' a (by omega)).1, y.2.trans (A' a (by omega)).2⟩
  have rz := h4.1 g hg
  have n6 : ∀ a, a = 163 ∨ a = 164 ∨ a = 167 ∨ a = 168 ∨ a = 169 ∨ a = 170 → gN σ'' a = gN σ a := fun a z => by
    obtain ⟨-, -, -, -, -, -, y5, y6, y7, y8, y9, y10⟩ := hz
    obtain ⟨-, -, -, -, -, -, u5, u6, u7, u8, u9, u10⟩ := rz
    rcases z with rfl | rfl | rfl | rfl | rfl | rfl
    · exact y5.trans u5.symm
    · exact y6.trans u6.symm
    · exact y7.trans u7.symm
    · exact y8.trans u8.symm
    · exact y9.trans u9.symm
    · exact y10.trans u10.symm
  refine ⟨?_, ?_, kst_rf hg hx k' f', rst_rf hg hx (rst_fb ht' h4 f) f' hz hw, ⟨?_, ?_, ?_, ?_, ?_⟩, ⟨?_, ?_, ?_⟩, fun h17 => ?_⟩
  · unfold Pr2
    rw [iR 1 5 rfl, iR 1 6 rfl, kp.2.2.1, kp.2.2.2, iR' 9, iR' 10]
    exact h1
  · unfold Tp2
    rw [h12.1, h12.2]
    omega
  · exact (rf_I hg hx f' 1 9 (by decide)).trans e9
  · rw [i1 62 9 (by omega), r2, f'.1 66 30 (by simp only [RIf, List.mem_append, List.mem_cons, List.not_mem_nil, or_false, Prod.mk.injEq]; omega), I' 66 30 (by decide)]
  · rw [i1 52 10 (by omega), r3, kp.2.1, I' 66 29 (by decide)]
  · rw [i1 1 7 (by omega), r4, kp.1, I' 66 11 (by decide)]
  · rw [(A1 187 (by omega)).1]; exact r5
  · exact h6.up (i1 52 10 (by omega)) (fun a z => A1 a (by omega))
  · exact h7.up (i1 52 10 (by omega)) (fun a z => A1 a (by omega)) (fun a z => Lg a (by omega) (by omega) (by omega) (by omega) (by omega) (by omega))
  · exact h8.up (fun k z => i1 52 k (by omega)) (fun a z => A1 a (by omega)) (kp.2.2.1.trans (iR' 9)) (fun a z1 z2 => oI a 12 (by omega) (by omega))
  · rw [i1 1 7 (by omega)] at h17
    obtain ⟨t', g', l', w, X, tg, n, X', fs, tge, hs', m, D, fa, ht2, q5, q9, tx, k1, k2⟩ := h9 h17
    have eg : g' = 194 - g := by omega
    have et : t' = 24 - t := by omega
    rw [← i1 1 8 (by omega)] at k1 k2
    refine ⟨t', g', l', w, X, tg, n, X', fs, tge, hs', m, D, fa, ht2, (iR 1 5 rfl).trans q5, (kp.2.2.1.trans (iR' 9)).trans q9, tx.up ht2 (fun k _ _ => i1 t' k (by omega)) (i1 (t' + 1) 8 (by omega)) (fun a _ _ => ?_) ⟨?_, ?_, ?_⟩ (fun a k _ _ => oI a k (by omega) (by omega)) (fun a _ _ => oA a (by omega) (by omega)) (fun a _ _ => Lg a (by omega) (by omega) (by omega) (by omega) (by omega) (by omega)) n6, fun z => (k1 z).up (fun k _ _ => i1 62 k (by omega)) (fun k _ _ => i1 52 k (by omega)) (fun a _ _ => A1 a (by omega)), fun z => (i1 52 10 (by omega)).trans (k2 z)⟩
    · have y := rf_A hg f' a (by omega)
      have y2 := f.2.2.2.1 a (by simp only [List.mem_cons, List.not_mem_nil, or_false]; omega)
      exact ⟨y.1.trans y2.1, y.2.trans y2.2⟩
    · exact (rf_A hg f' 43 (by omega)).1.trans (nk 43 (by omega) (by omega))
    · exact (rf_A hg f' 44 (by omega)).1.trans (nk 44 (by omega) (by omega))
    · exact (rf_A hg f' 45 (by omega)).1.trans (nk 45 (by omega) (by omega))
end TU2
