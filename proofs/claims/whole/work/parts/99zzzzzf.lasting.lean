/-! what holds between the law's turns -/
/-- which text is which -/
def Pr2 (σ : st_S) : Prop := (gR σ 1 5 = 4 ∧ gR σ 1 6 = 20 ∧ gR σ 66 9 = 79 ∧ gR σ 66 10 = 115) ∨ (gR σ 1 5 = 20 ∧ gR σ 1 6 = 4 ∧ gR σ 66 9 = 115 ∧ gR σ 66 10 = 79)
/-- which tape of the reference is which -/
def Tp2 (σ : st_S) : Prop := (gR σ 66 1 = 67 ∧ gR σ 66 2 = 69) ∨ (gR σ 66 1 = 69 ∧ gR σ 66 2 = 67)
/-- the class, whatever it holds -/
def Kst (σ : st_S) : Prop := (∃ W : List (Nat → Int32), gI σ 36 6 = nI W.length ∧ W.length ≤ 256 ∧ (∀ c, c < 5 → gN σ (37 + c) = 256) ∧ Wa σ W) ∧ (∀ t, t = 4 ∨ t = 20 → (∃ n L, L ≤ 50000 ∧ Cd σ t n L) ∧ LN σ t) ∧ N72 σ ∧ KLn σ
/-- the reference, whatever it holds -/
def Rst (σ : st_S) : Prop := (∀ g, g = 79 ∨ g = 115 → RZ σ g) ∧ Ryw σ ∧ XLn σ ∧ ∀ a, a = 176 ∨ a = 178 ∨ a = 180 → 16 ≤ gN σ a ∧ gN σ a ≤ 40000
section LAS
variable {N t g n m : Nat} {σ σ' : st_S} {l : List Int32} {w : List (Nat × Nat × Nat)} {X : Tx} {X' fs hs fa : Nat → Nat} {tge : Int32} {D : Nat → Nat → Int32} {tg : Tr}
theorem Kst.sj (h : Kst σ) (ht : t = 4 ∨ t = 20) : ∃ Y, SJ σ t Y := by
  obtain ⟨⟨W, w1, w2, w3, w4⟩, h2, -⟩ := h
  obtain ⟨⟨n, L, hL, hc⟩, -⟩ := h2 t ht
  exact ⟨(fun k => gI σ 36 k, W, n, fun i c => gE σ (t + 2 + c) i), L, hL, fun _ _ _ => rfl, w1, w2, w3, w4, hc, fun _ _ _ _ => rfl⟩
theorem Kst.up (h : Kst σ) (e6 : gI σ' 36 6 = gI σ 36 6) (e8 : ∀ t, t = 4 ∨ t = 20 → gI σ' (t + 1) 8 = gI σ (t + 1) 8) (eN : ∀ a, 4 ≤ a → a ≤ 65 → gN σ' a = gN σ a) (eE : ∀ a, 37 ≤ a → a ≤ 41 → gE σ' a = gE σ a) : Kst σ' := by
  obtain ⟨⟨W, w1, w2, w3, w4⟩, h2, h3, h4⟩ := h
  refine ⟨⟨W, e6.trans w1, w2, fun c hc => (eN _ (by omega) (by omega)).trans (w3 c hc), Wa.fr (fun c hc i _ => by rw [eE (37 + c) (by omega) (by omega)]) w4⟩, fun t ht => ?_, ?_, ?_⟩
  · obtain ⟨⟨n, L, hL, c1, c2, c3, c4, c5⟩, l10, l11, l12, l13, l14, l15, l43, l44, l45⟩ := h2 t ht
    exact ⟨⟨n, L, hL, (e8 t ht).trans c1, c2, c3, c4, fun c hc => (eN _ (by omega) (by omega)).trans (c5 c hc)⟩, (eN _ (by omega) (by omega)).trans l10, (eN _ (by omega) (by omega)).trans l11, (eN _ (by omega) (by omega)).trans l12, (eN _ (by omega) (by omega)).trans l13, (eN _ (by omega) (by omega)).trans l14, (eN _ (by omega) (by omega)).trans l15, (eN _ (by omega) (by omega)).trans l43, (eN _ (by omega) (by omega)).trans l44, (eN _ (by omega) (by omega)).trans l45⟩
  · exact ⟨(eN _ (by omega) (by omega)).trans h3.1, (eN _ (by omega) (by omega)).trans h3.2.1, (eN _ (by omega) (by omega)).trans h3.2.2.1, (eN _ (by omega) (by omega)).trans h3.2.2.2⟩
  · unfold KLn Col
    rw [eN 53 (by decide) (by decide), eN 63 (by decide) (by decide), eN 64 (by decide) (by decide), eN 65 (by decide) (by decide), eN 54 (by decide) (by decide), eN 55 (by decide) (by decide), eN 56 (by decide) (by decide), eN 57 (by decide) (by decide), eN 58 (by decide) (by decide), eN 59 (by decide) (by decide), eN 60 (by decide) (by decide), eN 61 (by decide) (by decide), eN 10 (by decide) (by decide), eN 11 (by decide) (by decide), eN 12 (by decide) (by decide), eN 13 (by decide) (by decide), eN 26 (by decide) (by decide), eN 27 (by decide) (by decide), eN 28 (by decide) (by decide), eN 29 (by decide) (by decide)]
    exact h4
theorem Rst.up (h : Rst σ) (eI : ∀ a k, 79 ≤ a → gI σ' a k = gI σ a k) (eA : ∀ a, 71 ≤ a → a ≤ 186 → gN σ' a = gN σ a) (eE : ∀ a, 79 ≤ a → gN σ' a = gN σ a ∧ gE σ' a = gE σ a) : Rst σ' := by
  obtain ⟨h1, h2, h3, h4⟩ := h
  refine ⟨fun g hg => (h1 g hg).up hg eI eE, ?_, ?_, fun a ha => ?_⟩
  · unfold Ryw B78
    rw [eA 72 (by decide) (by decide), eA 74 (by decide) (by decide), eA 76 (by decide) (by decide), eA 78 (by decide) (by decide)]
    exact h2
  · unfold XLn
    rw [eA 167 (by decide) (by decide), eA 168 (by decide) (by decide), eA 171 (by decide) (by decide), eA 172 (by decide) (by decide), eA 173 (by decide) (by decide), eA 174 (by decide) (by decide), eA 181 (by decide) (by decide), eA 182 (by decide) (by decide), eA 183 (by decide) (by decide), eA 184 (by decide) (by decide), eA 185 (by decide) (by decide), eA 186 (by decide) (by decide)]
    exact h3
  · rw [eA a (by omega) (by omega)]
    exact h4 a ha
/-- the reference's text stays where its cells do -/
theorem RT.up (hg : g = 79 ∨ g = 115) (h : RT g l w X n D fa σ) (eI : ∀ a k, g ≤ a → a ≤ g + 35 → gI σ' a k = gI σ a k) (eA : ∀ a, g ≤ a → a ≤ g + 35 → gN σ' a = gN σ a ∧ gE σ' a = gE σ a) (eL : ∀ a, g ≤ a → a ≤ g + 35 → gL σ' a = gL σ a) (hn : ∀ a, a = 163 ∨ a = 164 ∨ a = 167 ∨ a = 168 ∨ a = 169 ∨ a = 170 → gN σ' a = gN σ a) : RT g l w X n D fa σ' := by
  obtain ⟨h1, h2, h3, h4, h5, h6, h7, h8⟩ := h
  refine ⟨fun c hc => ?_, h2.fr (Nat.le_refl _) (fun _ _ => rfl) (fun a z j _ _ => by rw [(eA a (by omega) (by omega)).2]) (fun a z j _ _ => by rw [(eA a (by omega) (by omega)).2]) (fun a z j _ _ => by rw [eL a (by omega) (by omega)]), fun j hj => ?_, ?_, ?_, ?_, ?_, fun a z => ?_⟩
  · obtain ⟨q1, q2, q3, q4, q5⟩ := h1 c hc
    obtain ⟨e1, e2⟩ := eA (g + 1 + 2 * c + 1) (by omega) (by omega)
    exact ⟨(eI _ _ (by omega) (by omega)).trans q1, by rw [e1]; exact q2, by rw [e1]; exact q3, by rw [e1]; exact q4, by rw [e2]; exact q5⟩
  · rw [(eA (g + 18) (by omega) (by omega)).2]; exact h3 j hj
  · obtain ⟨a1, a2, a3, a4, a5, a6, a7, a8, a9, a10⟩ := h4
    exact ⟨fun a p q => (eA a (by omega) (by omega)).1.trans (a1 a p q), fun a p q => (eA a (by omega) (by omega)).1.trans (a2 a p q), fun a p q => (eA a (by omega) (by omega)).1.trans (a3 a p q), fun a p q => (eA a (by omega) (by omega)).1.trans (a4 a p q), (hn _ (by omega)).trans a5, (hn _ (by omega)).trans a6, (hn _ (by omega)).trans a7, (hn _ (by omega)).trans a8, (hn _ (by omega)).trans a9, (hn _ (by omega)).trans a10⟩
  · rw [eI g 17 (by omega) (by omega)]; exact h5
  · exact CosR.mo (mc := X.2.2.length) (m := nsc X.2.2) (fun _ _ _ q => q) (fun _ _ _ q => q) (fun a z1 z2 i _ => by rw [(eA a (by omega) (by omega)).2]) (fun a z1 z2 i _ => by rw [(eA a (by omega) (by omega)).2]) (fun a z i _ => by rw [(eA a (by omega) (by omega)).2]) (Nat.le_refl _) (Nat.le_refl _) h6
  · obtain ⟨b1, b2, b3, b4, b5, b6, b7, b8, b9⟩ := h7
    exact ⟨(eI _ _ (by omega) (by omega)).trans b1, (eI _ _ (by omega) (by omega)).trans b2, (eI _ _ (by omega) (by omega)).trans b3, b4, b5, b6, (eI _ _ (by omega) (by omega)).trans b7, (eI _ _ (by omega) (by omega)).trans b8, (eI _ _ (by omega) (by omega)).trans b9⟩
  · rw [(eA a (by omega) (by omega)).1]; exact h8 a z
/-- a text on both sides -/
def Tx1 (σ : st_S) (t g : Nat) (l : List Int32) (w : List (Nat × Nat × Nat)) (X : Tx) (tg : Tr) (n : Nat) (X' fs : Nat → Nat) (tge : Int32) (hs : Nat → Nat) (m : Nat) (D : Nat → Nat → Int32) (fa : Nat → Nat) : Prop := n ≤ 24600 ∧ Nvk l w ∧ TFx w X ∧ X.2.1 = some tg ∧ (∃ M, KM l w X X' fs n tge hs M ∧ CS σ t n M) ∧ SQ σ t X.1 X' fs tge X.2.2.length hs ∧ RT g l w X m D fa σ ∧ RTp l w X m
/-- what exploring it came to, on the class's side -/
def KRs (σ : st_S) (E : List En) (o : (Nat × Nat × Nat) ⊕ Gsh) : Prop := match o with
  | .inl e => gI σ 62 7 = nI e.1 ∧ gI σ 62 8 = nI e.2.1 ∧ gI σ 62 9 = nI e.2.2 ∧ gI σ 52 9 = 0 ∧ gI σ 52 10 = 0
  | .inr G => gI σ 62 7 = 0 ∧ gI σ 62 8 = -1 ∧ gI σ 62 9 = -1 ∧ KGr σ (cnt E 3) G ∧ GJ E G.1.1 G
def Txq (σ : st_S) : Prop := gI σ 1 7 ≠ 0 → ∃ t g l w X tg n X' fs tge hs m D fa, (t = 4 ∧ g = 79 ∨ t = 20 ∧ g = 115) ∧ gR σ 1 5 = t ∧ gR σ 66 9 = g ∧ Tx1 σ t g l w X tg n X' fs tge hs m D fa ∧ (gI σ 1 8 ≠ 0 → KRs σ X.1 (xex l w X tg)) ∧ (gI σ 1 8 = 0 → gI σ 52 10 = 0)
theorem Tx1.up (ht : t = 4 ∧ g = 79 ∨ t = 20 ∧ g = 115) (h : Tx1 σ t g l w X tg n X' fs tge hs m D fa) (k7 : ∀ k, 7 ≤ k → k ≤ 11 → gI σ' t k = gI σ t k) (k8 : gI σ' (t + 1) 8 = gI σ (t + 1) 8) (kA : ∀ a, t + 2 ≤ a → a ≤ t + 15 → gN σ' a = gN σ a ∧ gE σ' a = gE σ a) (kM : gN σ' 43 = gN σ 43 ∧ gN σ' 44 = gN σ 44 ∧ gN σ' 45 = gN σ 45) (eI : ∀ a k, g ≤ a → a ≤ g + 35 → gI σ' a k = gI σ a k) (eA : ∀ a, g ≤ a → a ≤ g + 35 → gN σ' a = gN σ a ∧ gE σ' a = gE σ a) (eL : ∀ a, g ≤ a → a ≤ g + 35 → gL σ' a = gL σ a) (hn : ∀ a, a = 163 ∨ a = 164 ∨ a = 167 ∨ a = 168 ∨ a = 169 ∨ a = 170 → gN σ' a = gN σ a) : Tx1 σ' t g l w X tg n X' fs tge hs m D fa := by
  obtain ⟨h1, h2, h3, h4, ⟨M, km, c1, c2, c3, c4⟩, ⟨⟨l10, l11, l12, l13, l14, l15, l43, l44, l45⟩, ⟨b1, b2, b3, b4, b5⟩, c, s5, s6, s7⟩, h7, h8⟩ := h
  refine ⟨h1, h2, h3, h4, ⟨M, km, k8.trans c1, c2, fun c hc => by rw [(kA (t + 2 + c) (by omega) (by omega)).1]; exact c3 c hc, fun c hc i hi => by rw [(kA (t + 2 + c) (by omega) (by omega)).2]; exact c4 c hc i hi⟩, ?_, h7.up (by omega) eI eA eL hn, h8⟩
  unfold SQ LN
  rw [kM.1, kM.2.1, kM.2.2, k7 7 (by decide) (by decide), k7 8 (by decide) (by decide), k7 9 (by decide) (by decide), k7 10 (by decide) (by decide), k7 11 (by decide) (by decide), (kA (t + 10) (by omega) (by omega)).1, (kA (t + 10) (by omega) (by omega)).2, (kA (t + 11) (by omega) (by omega)).1, (kA (t + 11) (by omega) (by omega)).2, (kA (t + 12) (by omega) (by omega)).1, (kA (t + 12) (by omega) (by omega)).2, (kA (t + 13) (by omega) (by omega)).1, (kA (t + 13) (by omega) (by omega)).2, (kA (t + 14) (by omega) (by omega)).1, (kA (t + 14) (by omega) (by omega)).2, (kA (t + 15) (by omega) (by omega)).1, (kA (t + 15) (by omega) (by omega)).2]
  exact ⟨⟨l10, l11, l12, l13, l14, l15, l43, l44, l45⟩, ⟨b1, b2, b3, b4, b5⟩, c, s5, s6, s7⟩
theorem KRs.up {E : List En} {o : (Nat × Nat × Nat) ⊕ Gsh} (h : KRs σ E o) (e2 : ∀ k, 7 ≤ k → k ≤ 9 → gI σ' 62 k = gI σ 62 k) (eI : ∀ k, 9 ≤ k → k ≤ 12 → gI σ' 52 k = gI σ 52 k) (eA : ∀ a, 54 ≤ a → a ≤ 61 → gN σ' a = gN σ a ∧ gE σ' a = gE σ a) : KRs σ' E o := by
  cases o with
  | inl e =>
    obtain ⟨a1, a2, a3, a4, a5⟩ := h
    exact ⟨(e2 7 (by decide) (by decide)).trans a1, (e2 8 (by decide) (by decide)).trans a2, (e2 9 (by decide) (by decide)).trans a3, (eI 9 (by decide) (by decide)).trans a4, (eI 10 (by decide) (by decide)).trans a5⟩
  | inr G =>
    obtain ⟨a1, a2, a3, a4, a5⟩ := h
    exact ⟨(e2 7 (by decide) (by decide)).trans a1, (e2 8 (by decide) (by decide)).trans a2, (e2 9 (by decide) (by decide)).trans a3, a4.fr eI eA, a5⟩
/-- the graphs' answers stay where their cells do -/
theorem R9.up (h : R9 σ) (e10 : gI σ' 52 10 = gI σ 52 10) (eA : ∀ a, a = 55 ∨ a = 172 → gN σ' a = gN σ a ∧ gE σ' a = gE σ a) : R9 σ' := by
  unfold R9
  rw [e10, (eA 55 (Or.inl rfl)).1, (eA 55 (Or.inl rfl)).2, (eA 172 (Or.inr rfl)).1, (eA 172 (Or.inr rfl)).2]
  exact h
theorem Rg.up (h : Rg σ) (e10 : gI σ' 52 10 = gI σ 52 10) (eA : ∀ a, (54 ≤ a ∧ a ≤ 61) ∨ (171 ≤ a ∧ a ≤ 183) → gN σ' a = gN σ a ∧ gE σ' a = gE σ a) (eL : ∀ a, a = 182 ∨ a = 183 → gL σ' a = gL σ a) : Rg σ' := by
  unfold Rg
  rw [e10, (eA 56 (by omega)).1, (eA 56 (by omega)).2, (eA 173 (by omega)).1, (eA 173 (by omega)).2, (eA 174 (by omega)).1, (eA 174 (by omega)).2, (eA 57 (by omega)).1, (eA 57 (by omega)).2, (eA 176 (by omega)).1, (eA 176 (by omega)).2, (eA 58 (by omega)).1, (eA 58 (by omega)).2, (eA 178 (by omega)).1, (eA 178 (by omega)).2, (eA 180 (by omega)).1, (eA 180 (by omega)).2, (eA 59 (by omega)).1, (eA 59 (by omega)).2, (eA 60 (by omega)).1, (eA 60 (by omega)).2, (eA 61 (by omega)).1, (eA 61 (by omega)).2, (eA 181 (by omega)).1, (eA 181 (by omega)).2, (eA 182 (by omega)).1, (eA 183 (by omega)).1, eL 182 (Or.inl rfl), eL 183 (Or.inr rfl)]
  exact h
theorem Rv.up (h : Rv σ) (e10 : ∀ k, k = 9 ∨ k = 10 → gI σ' 52 k = gI σ 52 k) (eA : ∀ a, a = 54 ∨ a = 171 → gN σ' a = gN σ a ∧ gE σ' a = gE σ a) (e9 : gR σ' 66 9 = gR σ 66 9) (e12 : ∀ a, gR σ 66 9 = a → (a = 79 ∨ a = 115) → gI σ' a 12 = gI σ a 12) : Rv σ' := by
  obtain ⟨S, V, a1, a2, a3, a4, a5, a6, a7, a8, a9⟩ := h
  refine ⟨S, V, (e10 10 (Or.inr rfl)).trans a1, a2, (e10 9 (Or.inl rfl)).trans a3, a4, by rw [(eA 54 (Or.inl rfl)).1]; exact a5, by rw [(eA 54 (Or.inl rfl)).1]; exact a6, by rw [(eA 171 (Or.inr rfl)).1]; exact a7, fun z => ?_, fun k hk v hv => by rw [(eA 54 (Or.inl rfl)).2, (eA 171 (Or.inr rfl)).2]; exact a9 k hk v hv⟩
  rcases a8 z with ⟨y1, y2⟩ | ⟨y1, y2⟩
  · exact Or.inl ⟨e9.trans y1, (e12 79 y1 (Or.inl rfl)).trans y2⟩
  · exact Or.inr ⟨e9.trans y1, (e12 115 y1 (Or.inr rfl)).trans y2⟩
/-- WHAT HOLDS BETWEEN THE TURNS -/
def Qq (σ : st_S) : Prop := Pr2 σ ∧ Tp2 σ ∧ Kst σ ∧ Rst σ ∧ Rp σ ∧ (R9 σ ∧ Rg σ ∧ Rv σ) ∧ Txq σ
/-- simple calls don't touch it -/
theorem qq_1 : Qf Qq := by
  intro c σ σ' ⟨h1, h2, h3, h4, h5, ⟨h6, h7, h8⟩, h9⟩ f
  obtain ⟨f1, f2, f3, f4, f5, -⟩ := f
  have eI : ∀ a k, a ≠ 2 → a ≠ 67 → a ≠ 69 → (a ≠ 66 ∨ k ≠ 0) → gI σ' a k = gI σ a k := fun a k z1 z2 z3 z4 => f1 a k (by simp only [sI, List.mem_cons, List.not_mem_nil, or_false, Prod.mk.injEq]; omega)
  have eR : ∀ a k, gR σ' a k = gR σ a k := fun a k => f3 a k (by simp)
  have eA : ∀ a, a ≠ 3 → a ≠ 68 → a ≠ 70 → gN σ' a = gN σ a ∧ gE σ' a = gE σ a := fun a z1 z2 z3 => f4 a (by simp only [sA, List.mem_cons, List.not_mem_nil, or_false]; omega)
  have eL : ∀ a, a ≠ 187 → gL σ' a = gL σ a := fun a z => f5 a (by simp only [List.mem_cons, List.not_mem_nil, or_false]; exact z)
  refine ⟨?_, ?_, ?_, ?_, ?_, ⟨?_, ?_, ?_⟩, ?_⟩
  · unfold Pr2; rw [eR, eR, eR, eR]; exact h1
  · unfold Tp2; rw [eR, eR]; exact h2
  · exact h3.up (eI _ _ (by omega) (by omega) (by omega) (by omega)) (fun t ht => eI _ _ (by omega) (by omega) (by omega) (by omega)) (fun a z1 z2 => (eA a (by omega) (by omega) (by omega)).1) (fun a z1 z2 => (eA a (by omega) (by omega) (by omega)).2)
  · exact h4.up (fun a k z => eI _ _ (by omega) (by omega) (by omega) (by omega)) (fun a z1 z2 => (eA a (by omega) (by omega) (by omega)).1) (fun a z => eA a (by omega) (by omega) (by omega))
  · unfold Rp
    rw [eI 1 9 (by decide) (by decide) (by decide) (by decide), eI 66 12 (by decide) (by decide) (by decide) (by decide), eI 62 9 (by decide) (by decide) (by decide) (by decide), eI 66 30 (by decide) (by decide) (by decide) (by decide), eI 52 10 (by decide) (by decide) (by decide) (by decide), eI 66 29 (by decide) (by decide) (by decide) (by decide), eI 1 7 (by decide) (by decide) (by decide) (by decide), eI 66 11 (by decide) (by decide) (by decide) (by decide), (eA 187 (by decide) (by decide) (by decide)).1]
    exact h5
  · exact h6.up (eI _ _ (by decide) (by decide) (by decide) (by decide)) (fun a z => eA a (by omega) (by omega) (by omega))
  · exact h7.up (eI _ _ (by decide) (by decide) (by decide) (by decide)) (fun a z => eA a (by omega) (by omega) (by omega)) (fun a z => eL a (by omega))
  · exact h8.up (fun k _ => eI _ _ (by decide) (by decide) (by decide) (Or.inl (by decide))) (fun a z => eA a (by omega) (by omega) (by omega)) (eR _ _) (fun a _ z => eI _ _ (by omega) (by omega) (by omega) (by omega))
  · intro h17
    rw [eI 1 7 (by decide) (by decide) (by decide) (by decide)] at h17
    obtain ⟨t, g, l, w, X, tg, n, X', fs, tge, hs, m, D, fa, ht, r5, r9, tx, k1, k2⟩ := h9 h17
    rw [← eI 1 8 (by decide) (by decide) (by decide) (by decide)] at k1 k2
    exact ⟨t, g, l, w, X, tg, n, X', fs, tge, hs, m, D, fa, ht, (eR _ _).trans r5, (eR _ _).trans r9, tx.up ht (fun k _ _ => eI _ _ (by omega) (by omega) (by omega) (by omega)) (eI _ _ (by omega) (by omega) (by omega) (by omega)) (fun a _ _ => eA a (by omega) (by omega) (by omega)) ⟨(eA 43 (by decide) (by decide) (by decide)).1, (eA 44 (by decide) (by decide) (by decide)).1, (eA 45 (by decide) (by decide) (by decide)).1⟩ (fun a k _ _ => eI _ _ (by omega) (by omega) (by omega) (by omega)) (fun a _ _ => eA a (by omega) (by omega) (by omega)) (fun a _ _ => eL a (by omega)) (fun a z => (eA a (by omega) (by omega) (by omega)).1), fun z => (k1 z).up (fun k _ _ => eI _ _ (by decide) (by decide) (by decide) (Or.inl (by decide))) (fun k _ _ => eI _ _ (by decide) (by decide) (by decide) (Or.inl (by decide))) (fun a _ _ => eA a (by omega) (by omega) (by omega)), fun z => (eI _ _ (by decide) (by decide) (by decide) (by decide)).trans (k2 z)⟩
/-- what the answers want -/
theorem qq_3 : ∀ σ, Qq σ → Rp σ ∧ R9 σ ∧ Ri σ ∧ Rg σ ∧ Rv σ := by
  intro σ ⟨h1, h2, h3, h4, h5, ⟨h6, h7, h8⟩, h9⟩
  refine ⟨h5, h6, fun h17 => ?_, h7, h8⟩
  obtain ⟨t, g, l, w, X, tg, n, X', fs, tge, hs, m, D, fa, ht, r5, r9, ⟨-, -, -, -, -, ⟨-, ⟨b1, b2, b3, b4, b5⟩, -⟩, ⟨-, -, -, -, -, -, ⟨c1, c2, c3, -⟩, -⟩, -⟩, -⟩ := h9 h17
  rcases ht with ⟨rfl, rfl⟩ | ⟨rfl, rfl⟩
  · exact Or.inl ⟨r5, r9, b1.trans c2.symm, b2.trans c1.symm, b4.trans c3.symm⟩
  · exact Or.inr ⟨r5, r9, b1.trans c2.symm, b2.trans c1.symm, b4.trans c3.symm⟩
/-- the room -/
theorem ph_sum {x3 x68 x70 : Nat} : x3 + (50000 + (50000 + (50000 + (50000 + (50000 + (50000 + (50000 + (50000 + (50000 + (50000 + (50000 + (50000 + (50000 + (50000 + (50000 + (50000 + (12288 + (1024 + (1025 + (10000 + (10001 + (8192 + (8192 + (8192 + (x68 + (x70 + (40000 + (40000 + (40000 + (40000 + (40000 + (40000 + (40000 + (40000 + (40000 + (40000 + (100000 + (100000 + (100000 + (40000 + (40000 + (40000 + (40000 + (40000 + (40000 + (100000 + (100000 + (100000 + (40000 + (40000 + (40000 + (100000 + (100000 + (100000 + (100000 + (40000 + (40000 + (40000 + 0)))))))))))))))))))))))))))))))))))))))))))))))))))))))))) ≤ 2900000 + x3 + x68 + x70 := by omega
theorem ph_pure {x3 x6 x7 x8 x9 x10 x11 x12 x13 x22 x23 x24 x25 x26 x27 x28 x29 x54 x55 x56 x57 x58 x59 x60 x61 x68 x70 x72 x74 x76 x78 x81 x83 x85 x87 x89 x91 x110 x112 x114 x117 x119 x121 x123 x125 x127 x146 x148 x150 x152 x154 x156 x158 x160 x162 x166 x176 x178 x180 : Nat} (h6 : x6 ≤ 50000) (h7 : x7 ≤ 50000) (h8 : x8 ≤ 50000) (h9 : x9 ≤ 50000) (h10 : x10 ≤ 50000) (h11 : x11 ≤ 50000) (h12 : x12 ≤ 50000) (h13 : x13 ≤ 50000) (h22 : x22 ≤ 50000) (h23 : x23 ≤ 50000) (h24 : x24 ≤ 50000) (h25 : x25 ≤ 50000) (h26 : x26 ≤ 50000) (h27 : x27 ≤ 50000) (h28 : x28 ≤ 50000) (h29 : x29 ≤ 50000) (h54 : x54 ≤ 12288) (h55 : x55 ≤ 1024) (h56 : x56 ≤ 1025) (h57 : x57 ≤ 10000) (h58 : x58 ≤ 10001) (h59 : x59 ≤ 8192) (h60 : x60 ≤ 8192) (h61 : x61 ≤ 8192) (h72 : x72 ≤ 40000) (h74 : x74 ≤ 40000) (h76 : x76 ≤ 40000) (h78 : x78 ≤ 40000) (h81 : x81 ≤ 40000) (h83 : x83 ≤ 40000) (h85 : x85 ≤ 40000) (h87 : x87 ≤ 40000) (h89 : x89 ≤ 40000) (h91 : x91 ≤ 40000) (h110 : x110 ≤ 100000) (h112 : x112 ≤ 100000) (h114 : x114 ≤ 100000) (h117 : x117 ≤ 40000) (h119 : x119 ≤ 40000) (h121 : x121 ≤ 40000) (h123 : x123 ≤ 40000) (h125 : x125 ≤ 40000) (h127 : x127 ≤ 40000) (h146 : x146 ≤ 100000) (h148 : x148 ≤ 100000) (h150 : x150 ≤ 100000) (h152 : x152 ≤ 40000) (h154 : x154 ≤ 40000) (h156 : x156 ≤ 40000) (h158 : x158 ≤ 100000) (h160 : x160 ≤ 100000) (h162 : x162 ≤ 100000) (h166 : x166 ≤ 100000) (h176 : x176 ≤ 40000) (h178 : x178 ≤ 40000) (h180 : x180 ≤ 40000) : x3 + (x6 + (x7 + (x8 + (x9 + (x10 + (x11 + (x12 + (x13 + (x22 + (x23 + (x24 + (x25 + (x26 + (x27 + (x28 + (x29 + (x54 + (x55 + (x56 + (x57 + (x58 + (x59 + (x60 + (x61 + (x68 + (x70 + (x72 + (x74 + (x76 + (x78 + (x81 + (x83 + (x85 + (x87 + (x89 + (x91 + (x110 + (x112 + (x114 + (x117 + (x119 + (x121 + (x123 + (x125 + (x127 + (x146 + (x148 + (x150 + (x152 + (x154 + (x156 + (x158 + (x160 + (x162 + (x166 + (x176 + (x178 + (x180 + 0)))))))))))))))))))))))))))))))))))))))))))))))))))))))))) ≤ 2900000 + x3 + x68 + x70 := Nat.le_trans (Nat.add_le_add (Nat.le_refl x3) (Nat.add_le_add h6 (Nat.add_le_add h7 (Nat.add_le_add h8 (Nat.add_le_add h9 (Nat.add_le_add h10 (Nat.add_le_add h11 (Nat.add_le_add h12 (Nat.add_le_add h13 (Nat.add_le_add h22 (Nat.add_le_add h23 (Nat.add_le_add h24 (Nat.add_le_add h25 (Nat.add_le_add h26 (Nat.add_le_add h27 (Nat.add_le_add h28 (Nat.add_le_add h29 (Nat.add_le_add h54 (Nat.add_le_add h55 (Nat.add_le_add h56 (Nat.add_le_add h57 (Nat.add_le_add h58 (Nat.add_le_add h59 (Nat.add_le_add h60 (Nat.add_le_add h61 (Nat.add_le_add (Nat.le_refl x68) (Nat.add_le_add (Nat.le_refl x70) (Nat.add_le_add h72 (Nat.add_le_add h74 (Nat.add_le_add h76 (Nat.add_le_add h78 (Nat.add_le_add h81 (Nat.add_le_add h83 (Nat.add_le_add h85 (Nat.add_le_add h87 (Nat.add_le_add h89 (Nat.add_le_add h91 (Nat.add_le_add h110 (Nat.add_le_add h112 (Nat.add_le_add h114 (Nat.add_le_add h117 (Nat.add_le_add h119 (Nat.add_le_add h121 (Nat.add_le_add h123 (Nat.add_le_add h125 (Nat.add_le_add h127 (Nat.add_le_add h146 (Nat.add_le_add h148 (Nat.add_le_add h150 (Nat.add_le_add h152 (Nat.add_le_add h154 (Nat.add_le_add h156 (Nat.add_le_add h158 (Nat.add_le_add h160 (Nat.add_le_add h162 (Nat.add_le_add h166 (Nat.add_le_add h176 (Nat.add_le_add h178 (Nat.add_le_add h180 (Nat.le_refl 0)))))))))))))))))))))))))))))))))))))))))))))))))))))))))))) ph_sum
theorem ph_x1 {a b : Nat} (h : a = 12 * b) (hb : b ≤ 1024) : a ≤ 12288 := by omega
theorem ph_x2 {a b : Nat} (h : a = b + 1) (hb : b ≤ 1024) : a ≤ 1025 := by omega
theorem ph_x3 {a b : Nat} (h : a = b + 1) (hb : b ≤ 10000) : a ≤ 10001 := by omega
theorem ph_q (h3 : Kst σ) (h4 : Rst σ) : Ph σ ≤ 2900000 + gN σ 3 + gN σ 68 + gN σ 70 := by
  obtain ⟨-, h2, -, -, -, -, -, ⟨m54, m56, m55, m55'⟩, ⟨m58, m57, m57'⟩, m60, m61, m59, m59', -⟩ := h3
  obtain ⟨⟨n1, L1, b1, -, -, -, -, c1⟩, -⟩ := h2 4 (Or.inl rfl)
  obtain ⟨⟨n2, L2, b2, -, -, -, -, c2⟩, -⟩ := h2 20 (Or.inr rfl)
  obtain ⟨r1, ⟨⟨-, w1⟩, ⟨-, w2⟩, ⟨-, w3⟩, -, w4⟩, -, r4⟩ := h4
  obtain ⟨s1, s2, -⟩ := r1 79 (Or.inl rfl)
  obtain ⟨t1, t2, -⟩ := r1 115 (Or.inr rfl)
  have sk : ∀ {o : Nat}, Skx σ o → gN σ (o + 1) ≤ 100000 := fun {o} q => by
    obtain ⟨L, z⟩ := q
    exact z.2
  have e6 : gN σ 6 ≤ 50000 := Nat.le_trans (Nat.le_of_eq (c1 0 (by decide))) b1
  have e7 : gN σ 7 ≤ 50000 := Nat.le_trans (Nat.le_of_eq (c1 1 (by decide))) b1
  have e8 : gN σ 8 ≤ 50000 := Nat.le_trans (Nat.le_of_eq (c1 2 (by decide))) b1
  have e9 : gN σ 9 ≤ 50000 := Nat.le_trans (Nat.le_of_eq (c1 3 (by decide))) b1
  have e10 : gN σ 10 ≤ 50000 := Nat.le_trans (Nat.le_of_eq (c1 4 (by decide))) b1
  have e11 : gN σ 11 ≤ 50000 := Nat.le_trans (Nat.le_of_eq (c1 5 (by decide))) b1
  have e12 : gN σ 12 ≤ 50000 := Nat.le_trans (Nat.le_of_eq (c1 6 (by decide))) b1
  have e13 : gN σ 13 ≤ 50000 := Nat.le_trans (Nat.le_of_eq (c1 7 (by decide))) b1
  have e22 : gN σ 22 ≤ 50000 := Nat.le_trans (Nat.le_of_eq (c2 0 (by decide))) b2
  have e23 : gN σ 23 ≤ 50000 := Nat.le_trans (Nat.le_of_eq (c2 1 (by decide))) b2
  have e24 : gN σ 24 ≤ 50000 := Nat.le_trans (Nat.le_of_eq (c2 2 (by decide))) b2
  have e25 : gN σ 25 ≤ 50000 := Nat.le_trans (Nat.le_of_eq (c2 3 (by decide))) b2
  have e26 : gN σ 26 ≤ 50000 := Nat.le_trans (Nat.le_of_eq (c2 4 (by decide))) b2
  have e27 : gN σ 27 ≤ 50000 := Nat.le_trans (Nat.le_of_eq (c2 5 (by decide))) b2
  have e28 : gN σ 28 ≤ 50000 := Nat.le_trans (Nat.le_of_eq (c2 6 (by decide))) b2
  have e29 : gN σ 29 ≤ 50000 := Nat.le_trans (Nat.le_of_eq (c2 7 (by decide))) b2
  have e54 : gN σ 54 ≤ 12288 := (ph_x1 m54 m55')
  have e55 : gN σ 55 ≤ 1024 := m55'
  have e56 : gN σ 56 ≤ 1025 := (ph_x2 m56 m55')
  have e57 : gN σ 57 ≤ 10000 := m57'
  have e58 : gN σ 58 ≤ 10001 := (ph_x3 m58 m57')
  have e59 : gN σ 59 ≤ 8192 := m59'
  have e60 : gN σ 60 ≤ 8192 := Nat.le_trans (Nat.le_of_eq m60) m59'
  have e61 : gN σ 61 ≤ 8192 := Nat.le_trans (Nat.le_of_eq m61) m59'
  have e72 : gN σ 72 ≤ 40000 := w1
  have e74 : gN σ 74 ≤ 40000 := w2
  have e76 : gN σ 76 ≤ 40000 := w3
  have e78 : gN σ 78 ≤ 40000 := w4
  have e81 : gN σ 81 ≤ 40000 := (s2 80 (by simp)).2
  have e83 : gN σ 83 ≤ 40000 := (s2 82 (by simp)).2
  have e85 : gN σ 85 ≤ 40000 := (s2 84 (by simp)).2
  have e87 : gN σ 87 ≤ 40000 := (s2 86 (by simp)).2
  have e89 : gN σ 89 ≤ 40000 := (s2 88 (by simp)).2
  have e91 : gN σ 91 ≤ 40000 := (s2 90 (by simp)).2
  have e110 : gN σ 110 ≤ 100000 := (sk (s1 109 (by simp)))
  have e112 : gN σ 112 ≤ 100000 := (sk (s1 111 (by simp)))
  have e114 : gN σ 114 ≤ 100000 := (sk (s1 113 (by simp)))
  have e117 : gN σ 117 ≤ 40000 := (t2 116 (by simp)).2
  have e119 : gN σ 119 ≤ 40000 := (t2 118 (by simp)).2
  have e121 : gN σ 121 ≤ 40000 := (t2 120 (by simp)).2
  have e123 : gN σ 123 ≤ 40000 := (t2 122 (by simp)).2
  have e125 : gN σ 125 ≤ 40000 := (t2 124 (by simp)).2
  have e127 : gN σ 127 ≤ 40000 := (t2 126 (by simp)).2
  have e146 : gN σ 146 ≤ 100000 := (sk (t1 145 (by simp)))
  have e148 : gN σ 148 ≤ 100000 := (sk (t1 147 (by simp)))
  have e150 : gN σ 150 ≤ 100000 := (sk (t1 149 (by simp)))
  have e152 : gN σ 152 ≤ 40000 := (s2 151 (by simp)).2
  have e154 : gN σ 154 ≤ 40000 := (s2 153 (by simp)).2
  have e156 : gN σ 156 ≤ 40000 := (s2 155 (by simp)).2
  have e158 : gN σ 158 ≤ 100000 := (sk (s1 157 (by simp)))
  have e160 : gN σ 160 ≤ 100000 := (sk (s1 159 (by simp)))
  have e162 : gN σ 162 ≤ 100000 := (sk (s1 161 (by simp)))
  have e166 : gN σ 166 ≤ 100000 := (sk (s1 165 (by simp)))
  have e176 : gN σ 176 ≤ 40000 := (r4 176 (by omega)).2
  have e178 : gN σ 178 ≤ 40000 := (r4 178 (by omega)).2
  have e180 : gN σ 180 ≤ 40000 := (r4 180 (by omega)).2
  unfold Ph gra
  simp only [List.map_cons, List.map_nil, List.sum_cons, List.sum_nil]
  exact ph_pure e6 e7 e8 e9 e10 e11 e12 e13 e22 e23 e24 e25 e26 e27 e28 e29 e54 e55 e56 e57 e58 e59 e60 e61 e72 e74 e76 e78 e81 e83 e85 e87 e89 e91 e110 e112 e114 e117 e119 e121 e123 e125 e127 e146 e148 e150 e152 e154 e156 e158 e160 e162 e166 e176 e178 e180
end LAS
