/-! what holds between the law's turns -/
/-- which text is which -/
def Pr2 (σ : st_S) : Prop := (gR σ 1 5 = 4 ∧ gR σ 1 6 = 20 ∧ gR σ 66 9 = 79 ∧ gR σ 66 10 = 115) ∨ (gR σ 1 5 = 20 ∧ gR σ 1 6 = 4 ∧ gR σ 66 9 = 115 ∧ gR σ 66 10 = 79)
/-- which tape of the reference is which -/
def Tp2 (σ : st_S) : Prop := (gR σ 66 1 = 67 ∧ gR σ 66 2 = 69) ∨ (gR σ 66 1 = 69 ∧ gR σ 66 2 = 67)
/-- the class, whatever it holds -/
def Kst (σ : st_S) : Prop := (∃ W : List (Nat → Int32), gI σ 36 6 = nI W.length ∧ W.length ≤ 256 ∧ (∀ c, c < 5 → gN σ (37 + c) = 256) ∧ Wa σ W) ∧ (∀ t, t = 4 ∨ t = 20 → (∃ n L, L ≤ 50000 ∧ Cd σ t n L) ∧ LN σ t) ∧ N72 σ ∧ KLn σ
/-- the reference, whatever it holds -/
def Rst (σ : st_S) : Prop := (∀ g, g = 79 ∨ g = 115 → RZ σ g) ∧ Ryw σ ∧ XLn σ ∧ ∀ a, a = 176 ∨ a = 178 ∨ a = 180 → 16 ≤ gN σ a ∧ gN σ a ≤ 40000
section LAS
variable {N t g n m : Nat} {σ σ' : st_S} {l : List Int32} {w : List (Nat × Nat × Nat)} {X : Tx} {X' fs hs fa : Nat → Nat} {tge : Int32} {D : Nat → Nat → Int32} {tg : Tr}
theorem Kst.sj (h : Kst σ) (ht : t = 4 ∨ t = 20) : ∃ Y, SJ σ t Y := by
  obtain ⟨⟨W, w1, w2, w3, w4⟩, h2, -⟩ := h
  obtain ⟨⟨n, L, hL, hc⟩, -⟩ := h2 t ht
  exact ⟨(fun k => gI σ 36 k, W, n, fun i c => gE σ (t + 2 + c) i), L, hL, fun _ _ _ => rfl, w1, w2, w3, w4, hc, fun _ _ _ _ => rfl⟩
theorem Kst.up (h : Kst σ) (e6 : gI σ' 36 6 = gI σ 36 6) (e8 : ∀ t, t = 4 ∨ t = 20 → gI σ' (t + 1) 8 = gI σ (t + 1) 8) (eN : ∀ a, 4 ≤ a → a ≤ 65 → gN σ' a = gN σ a) (eE : ∀ a, 37 ≤ a → a ≤ 41 → gE σ' a = gE σ a) : Kst σ' := by
  obtain ⟨⟨W, w1, w2, w3, w4⟩, h2, h3, h4⟩ := h
  refine ⟨⟨W, e6.trans w1, w2, fun c hc => (eN _ (by omega) (by omega)).trans (w3 c hc), Wa.fr (fun c hc i _ => by rw [eE (37 + c) (by omega) (by omega)]) w4⟩, fun t ht => ?_, ?_, ?_⟩
  · obtain ⟨⟨n, L, hL, c1, c2, c3, c4, c5⟩, l10, l11, l12, l13, l14, l15, l43, l44, l45⟩ := h2 t ht
    exact ⟨⟨n, L, hL, (e8 t ht).trans c1, c2, c3, c4, fun c hc => (eN _ (by omega) (by omega)).trans (c5 c hc)⟩, (eN _ (by omega) (by omega)).trans l10, (eN _ (by omega) (by omega)).trans l11, (eN _ (by omega) (by omega)).trans l12, (eN _ (by omega) (by omega)).trans l13, (eN _ (by omega) (by omega)).trans l14, (eN _ (by omega) (by omega)).trans l15, (eN _ (by omega) (by omega)).trans l43, (eN _ (by omega) (by omega)).trans l44, (eN _ (by omega) (by omega)).trans l45⟩
  · exact ⟨(eN _ (by omega) (by omega)).trans h3.1, (eN _ (by omega) (by omega)).trans h3.2.1, (eN _ (by omega) (by omega)).trans h3.2.2.1, (eN _ (by omega) (by omega)).trans h3.2.2.2⟩
  · unfold KLn Col
    rw [eN 53 (by decide) (by decide), eN 63 (by decide) (by decide), eN 64 (by decide) (by decide), eN 65 (by decide) (by decide), eN 54 (by decide) (by decide), eN 55 (by decide) (by decide), eN 56 (by decide) (by decide), eN 57 (by decide) (by decide), eN 58 (by decide) (by decide), eN 59 (by decide) (by decide), eN 60 (by decide) (by decide), eN 61 (by decide) (by decide), eN 10 (by decide) (by decide), eN 11 (by decide) (by decide), eN 12 (by decide) (by decide), eN 13 (by decide) (by decide), eN 26 (by decide) (by decide), eN 27 (by decide) (by decide), eN 28 (by decide) (by decide), eN 29 (by decide) (by decide)]
    exact h4
theorem Rst.up (h : Rst σ) (eI : ∀ a k, 79 ≤ a → gI σ' a k = gI σ a k) (eA : ∀ a, 71 ≤ a → a ≤ 186 → gN σ' a = gN σ a) (eE : ∀ a, 79 ≤ a → gN σ' a = gN σ a ∧ gE σ' a = gE σ a) : Rst σ' := by
  obtain ⟨h1, h2, h3, h4⟩ := h
  refine ⟨fun g hg => (h1 g hg).up hg eI eE, ?_, ?_, fun a ha => ?_⟩
  · unfold Ryw B78
    rw [eA 72 (by decide) (by decide), eA 74 (by decide) (by decide), eA 76 (by decide) (by decide), eA 78 (by decide) (by decide)]
    exact h2
  · unfold XLn
    rw [eA 167 (by decide) (by decide), eA 168 (by decide) (by decide), eA 171 (by decide) (by decide), eA 172 (by decide) (by decide), eA 173 (by decide) (by decide), eA 174 (by decide) (by decide), eA 181 (by decide) (by decide), eA 182 (by decide) (by decide), eA 183 (by decide) (by decide), eA 184 (by decide) (by decide), eA 185 (by decide) (by decide), eA 186 (by decide) (by decide)]
    exact h3
  · rw [eA a (by omega) (by omega)]
    exact h4 a ha
/-- the reference's text stays where its cells do -/
theorem RT.up (hg : g = 79 ∨ g = 115) (h : RT g l w X n D fa σ) (eI : ∀ a k, g ≤ a → a ≤ g + 35 → gI σ' a k = gI σ a k) (eA : ∀ a, g ≤ a → a ≤ g + 35 → gN σ' a = gN σ a ∧ gE σ' a = gE σ a) (eL : ∀ a, g ≤ a → a ≤ g + 35 → gL σ' a = gL σ a) (hn : ∀ a, a = 163 ∨ a = 164 ∨ a = 167 ∨ a = 168 ∨ a = 169 ∨ a = 170 → gN σ' a = gN σ a) : RT g l w X n D fa σ' := by
  obtain ⟨h1, h2, h3, h4, h5, h6, h7, h8⟩ := h
  refine ⟨fun c hc => ?_, h2.fr (Nat.le_refl _) (fun _ _ => rfl) (fun a z j _ _ => by rw [(eA a (by omega) (by omega)).2]) (fun a z j _ _ => by rw [(eA a (by omega) (by omega)).2]) (fun a z j _ _ => by rw [eL a (by omega) (by omega)]), fun j hj => ?_, ?_, ?_, ?_, ?_, fun a z => ?_⟩
  · obtain ⟨q1, q2, q3, q4, q5⟩ := h1 c hc
    obtain ⟨e1, e2⟩ := eA (g + 1 + 2 * c + 1) (by omega) (by omega)
    exact ⟨(eI _ _ (by omega) (by omega)).trans q1, by rw [e1]; exact q2, by rw [e1]; exact q3, by rw [e1]; exact q4, by rw [e2]; exact q5⟩
  · rw [(eA (g + 18) (by omega) (by omega)).2]; exact h3 j hj
  · obtain ⟨a1, a2, a3, a4, a5, a6, a7, a8, a9, a10⟩ := h4
    exact ⟨fun a p q => (eA a (by omega) (by omega)).1.trans (a1 a p q), fun a p q => (eA a (by omega) (by omega)).1.trans (a2 a p q), fun a p q => (eA a (by omega) (by omega)).1.trans (a3 a p q), fun a p q => (eA a (by omega) (by omega)).1.trans (a4 a p q), (hn _ (by omega)).trans a5, (hn _ (by omega)).trans a6, (hn _ (by omega)).trans a7, (hn _ (by omega)).trans a8, (hn _ (by omega)).trans a9, (hn _ (by omega)).trans a10⟩
  · rw [eI g 17 (by omega) (by omega)]; exact h5
  · exact CosR.mo (mc := X.2.2.length) (m := nsc X.2.2) (fun _ _ _ q => q) (fun _ _ _ q => q) (fun a z1 z2 i _ => by rw [(eA a (by omega) (by omega)).2]) (fun a z1 z2 i _ => by rw [(eA a (by omega) (by omega)).2]) (fun a z i _ => by rw [(eA a (by omega) (by omega)).2]) (Nat.le_refl _) (Nat.le_refl _) h6
  · obtain ⟨b1, b2, b3, b4, b5, b6, b7, b8, b9⟩ := h7
    exact ⟨(eI _ _ (by omega) (by omega)).trans b1, (eI _ _ (by omega) (by omega)).trans b2, (eI _ _ (by omega) (by omega)).trans b3, b4, b5, b6, (eI _ _ (by omega) (by omega)).trans b7, (eI _ _ (by omega) (by omega)).trans b8, (eI _ _ (by omega) (by omega)).trans b9⟩
  · rw [(eA a (by omega) (by omega)).1]; exact h8 a z
/-- a text on both sides -/
def Tx1 (σ : st_S) (t g : Nat) (l : List Int32) (w : List (Nat × Nat × Nat)) (X : Tx) (tg : Tr) (n : Nat) (X' fs : Nat → Nat) (tge : Int32) (hs : Nat → Nat) (m : Nat) (D : Nat → Nat → Int32) (fa : Nat → Nat) : Prop := n ≤ 24600 ∧ Nvk l w ∧ TFx w X ∧ X.2.1 = some tg ∧ (∃ M, KM l w X X' fs n tge hs M ∧ CS σ t n M) ∧ SQ σ t X.1 X' fs tge X.2.2.length hs ∧ RT g l w X m D fa σ ∧ RTp l w X m
/-- what exploring it came to, on the class's side -/
def KRs (σ : st_S) (E : List En) (o : (Nat × Nat × Nat) ⊕ Gsh) : Prop := match o with
  | .inl e => gI σ 62 7 = nI e.1 ∧ gI σ 62 8 = nI e.2.1 ∧ gI σ 62 9 = nI e.2.2 ∧ gI σ 52 9 = 0 ∧ gI σ 52 10 = 0
  | .inr G => gI σ 62 7 = 0 ∧ gI σ 62 8 = -1 ∧ gI σ 62 9 = -1 ∧ KGr σ (cnt E 3) G ∧ GJ E G.1.1 G
def Txq (σ : st_S) : Prop := gI σ 1 7 ≠ 0 → ∃ t g l w X tg n X' fs tge hs m D fa, (t = 4 ∧ g = 79 ∨ t = 20 ∧ g = 115) ∧ gR σ 1 5 = t ∧ gR σ 66 9 = g ∧ Tx1 σ t g l w X tg n X' fs tge hs m D fa ∧ (gI σ 1 8 ≠ 0 → KRs σ X.1 (xex l w X tg)) ∧ (gI σ 1 8 = 0 → gI σ 52 10 = 0)
theorem Tx1.up (ht : t = 4 ∧ g = 79 ∨ t = 20 ∧ g = 115) (h : Tx1 σ t g l w X tg n X' fs tge hs m D fa) (k7 : ∀ k, 7 ≤ k → k ≤ 11 → gI σ' t k = gI σ t k) (k8 : gI σ' (t + 1) 8 = gI σ (t + 1) 8) (kA : ∀ a, t + 2 ≤ a → a ≤ t + 15 → gN σ' a = gN σ a ∧ gE σ' a = gE σ a) (kM : gN σ' 43 = gN σ 43 ∧ gN σ' 44 = gN σ 44 ∧ gN σ' 45 = gN σ 45) (eI : ∀ a k, g ≤ a → a ≤ g + 35 → gI σ' a k = gI σ a k) (eA : ∀ a, g ≤ a → a ≤ g + 35 → gN σ' a = gN σ a ∧ gE σ' a = gE σ a) (eL : ∀ a, g ≤ a → a ≤ g + 35 → gL σ' a = gL σ a) (hn : ∀ a, a = 163 ∨ a = 164 ∨ a = 167 ∨ a = 168 ∨ a = 169 ∨ a = 170 → gN σ' a = gN σ a) : Tx1 σ' t g l w X tg n X' fs tge hs m D fa := by
  obtain ⟨h1, h2, h3, h4, ⟨M, km, c1, c2, c3, c4⟩, ⟨⟨l10, l11, l12, l13, l14, l15, l43, l44, l45⟩, ⟨b1, b2, b3, b4, b5⟩, c, s5, s6, s7⟩, h7, h8⟩ := h
  refine ⟨h1, h2, h3, h4, ⟨M, km, k8.trans c1, c2, fun c hc => by rw [(kA (t + 2 + c) (by omega) (by omega)).1]; exact c3 c hc, fun c hc i hi => by rw [(kA (t + 2 + c) (by omega) (by omega)).2]; exact c4 c hc i hi⟩, ?_, h7.up (by omega) eI eA eL hn, h8⟩
  unfold SQ LN
  rw [kM.1, kM.2.1, kM.2.2, k7 7 (by decide) (by decide), k7 8 (by decide) (by decide), k7 9 (by decide) (by decide), k7 10 (by decide) (by decide), k7 11 (by decide) (by decide), (kA (t + 10) (by omega) (by omega)).1, (kA (t + 10) (by omega) (by omega)).2, (kA (t + 11) (by omega) (by omega)).1, (kA (t + 11) (by omega) (by omega)).2, (kA (t + 12) (by omega) (by omega)).1, (kA (t + 12) (by omega) (by omega)).2, (kA (t + 13) (by omega) (by omega)).1, (kA (t + 13) (by omega) (by omega)).2, (kA (t + 14) (by omega) (by omega)).1, (kA (t + 14) (by omega) (by omega)).2, (kA (t + 15) (by omega) (by omega)).1, (kA (t + 15) (by omega) (by omega)).2]
  exact ⟨⟨l10, l11, l12, l13, l14, l15, l43, l44, l45⟩, ⟨b1, b2, b3, b4, b5⟩, c, s5, s6, s7⟩
theorem KRs.up {E : List En} {o : (Nat × Nat × Nat) ⊕ Gsh} (h : KRs σ E o) (e2 : ∀ k, 7 ≤ k → k ≤ 9 → gI σ' 62 k = gI σ 62 k) (eI : ∀ k, 9 ≤ k → k ≤ 12 → gI σ' 52 k = gI σ 52 k) (eA : ∀ a, 54 ≤ a → a ≤ 61 → gN σ' a = gN σ a ∧ gE σ' a = gE σ a) : KRs σ' E o := by
  cases o with
  | inl e =>
    obtain ⟨a1, a2, a3, a4, a5⟩ := h
    exact ⟨(e2 7 (by decide) (by decide)).trans a1, (e2 8 (by decide) (by decide)).trans a2, (e2 9 (by decide) (by decide)).trans a3, (eI 9 (by decide) (by decide)).trans a4, (eI 10 (by decide) (by decide)).trans a5⟩
  | inr G =>
    obtain ⟨a1, a2, a3, a4, a5⟩ := h
    exact ⟨(e2 7 (by decide) (by decide)).trans a1, (e2 8 (by decide) (by decide)).trans a2, (e2 9 (by decide) (by decide)).trans a3, a4.fr eI eA, a5⟩
/-- the graphs' answers stay where their cells do -/
theorem R9.up (h : R9 σ) (e10 : gI σ' 52 10 = gI σ 52 10) (eA : ∀ a, a = 55 ∨ a = 172 → gN σ' a = gN σ a ∧ gE σ' a = gE σ a) : R9 σ' := by
  unfold R9
  rw [e10, (eA 55 (Or.inl rfl)).1, (eA 55 (Or.inl rfl)).2, (eA 172 (Or.inr rfl)).1, (eA 172 (Or.inr rfl)).2]
  exact h
theorem Rg.up (h : Rg σ) (e10 : gI σ' 52 10 = gI σ 52 10) (eA : ∀ a, (54 ≤ a ∧ a ≤ 61) ∨ (171 ≤ a ∧ a ≤ 183) → gN σ' a = gN σ a ∧ gE σ' a = gE σ a) (eL : ∀ a, a = 182 ∨ a = 183 → gL σ' a = gL σ a) : Rg σ' := by
  unfold Rg
  rw [e10, (eA 56 (by omega)).1, (eA 56 (by omega)).2, (eA 173 (by omega)).1, (eA 173 (by omega)).2, (eA 174 (by omega)).1, (eA 174 (by omega)).2, (eA 57 (by omega)).1, (eA 57 (by omega)).2, (eA 176 (by omega)).1, (eA 176 (by omega)).2, (eA 58 (by omega)).1, (eA 58 (by omega)).2, (eA 178 (by omega)).1, (eA 178 (by omega)).2, (eA 180 (by omega)).1, (eA 180 (by omega)).2, (eA 59 (by omega)).1, (eA 59 (by omega)).2, (eA 60 (by omega)).1, (eA 60 (by omega)).2, (eA 61 (by omega)).1, (eA 61 (by omega)).2, (eA 181 (by omega)).1, (eA 181 (by omega)).2, (eA 182 (by omega)).1, (eA 183 (by omega)).1, eL 182 (Or.inl rfl), eL 183 (Or.inr rfl)]
  exact h
theorem Rv.up (h : Rv σ) (e10 : ∀ k, k = 9 ∨ k = 10 → gI σ' 52 k = gI σ 52 k) (eA : ∀ a, a = 54 ∨ a = 171 → gN σ' a = gN σ a ∧ gE σ' a = gE σ a) (e9 : gR σ' 66 9 = gR σ 66 9) (e12 : ∀ a, gR σ 66 9 = a → (a = 79 ∨ a = 115) → gI σ' a 12 = gI σ a 12) : Rv σ' := by
  obtain ⟨S, V, a1, a2, a3, a4, a5, a6, a7, a8, a9⟩ := h
  refine ⟨S, V, (e10 10 (Or.inr rfl)).trans a1, a2, (e10 9 (Or.inl rfl)).trans a3, a4, by rw [(eA 54 (Or.inl rfl)).1]; exact a5, by rw [(eA 54 (Or.inl rfl)).1]; exact a6, by rw [(eA 171 (Or.inr rfl)).1]; exact a7, fun z => ?_, fun k hk v hv => by rw [(eA 54 (Or.inl rfl)).2, (eA 171 (Or.inr rfl)).2]; exact a9 k hk v hv⟩
  rcases a8 z with ⟨y1, y2⟩ | ⟨y1, y2⟩
  · exact Or.inl ⟨e9.trans y1, (e12 79 y1 (Or.inl rfl)).trans y2⟩
  · exact Or.inr ⟨e9.trans y1, (e12 115 y1 (Or.inr rfl)).trans y2⟩
/-- WHAT HOLDS BETWEEN THE TURNS -/
def Qq (σ : st_S) : Prop := Pr2 σ ∧ Tp2 σ ∧ Kst σ ∧ Rst σ ∧ Rp σ ∧ (R9 σ ∧ Rg σ ∧ Rv σ) ∧ Txq σ
/-- simple calls don't touch it -/
theorem qq_1 : Qf Qq := by
  intro c σ σ' ⟨h1, h2, h3, h4, h5, ⟨h6, h7, h8⟩, h9⟩ f
  obtain ⟨f1, f2, f3, f4, f5, -⟩ := f
  have eI : ∀ a k, a ≠ 2 → a ≠ 67 → a ≠ 69 → (a ≠ 66 ∨ k ≠ 0) → gI σ' a k = gI σ a k := fun a k z1 z2 z3 z4 => f1 a k (by simp only [sI, List.mem_cons, List.not_mem_nil, or_false, Prod.mk.injEq]; omega)
  have eR : ∀ a k, gR σ' a k = gR σ a k := fun a k => f3 a k (by simp)
  have eA : ∀ a, a ≠ 3 → a ≠ 68 → a ≠ 70 → gN σ' a = gN σ a ∧ gE σ' a = gE σ a := fun a z1 z2 z3 => f4 a (by simp only [sA, List.mem_cons, List.not_mem_nil, or_false]; omega)
  have eL : ∀ a, a ≠ 187 → gL σ' a = gL σ a := fun a z => f5 a (by simp only [List.mem_cons, List.not_mem_nil, or_false]; exact z)
  refine ⟨?_, ?_, ?_, ?_, ?_, ⟨?_, ?_, ?_⟩, ?_⟩
  · unfold Pr2; rw [eR, eR, eR, eR]; exact h1
  · unfold Tp2; rw [eR, eR]; exact h2
  · exact h3.up (eI _ _ (by omega) (by omega) (by omega) (by omega)) (fun t ht => eI _ _ (by omega) (by omega) (by omega) (by omega)) (fun a z1 z2 => (eA a (by omega) (by omega) (by omega)).1) (fun a z1 z2 => (eA a (by omega) (by omega) (by omega)).2)
  · exact h4.up (fun a k z => eI _ _ (by omega) (by omega) (by omega) (by omega)) (fun a z1 z2 => (eA a (by omega) (by omega) (by omega)).1) (fun a z => eA a (by omega) (by omega) (by omega))
  · unfold Rp
    rw [eI 1 9 (by decide) (by decide) (by decide) (by decide), eI 66 12 (by decide) (by decide) (by decide) (by decide), eI 62 9 (by decide) (by decide) (by decide) (by decide), eI 66 30 (by decide) (by decide) (by decide) (by decide), eI 52 10 (by decide) (by decide) (by decide) (by decide), eI 66 29 (by decide) (by decide) (by decide) (by decide), eI 1 7 (by decide) (by decide) (by decide) (by decide), eI 66 11 (by decide) (by decide) (by decide) (by decide), (eA 187 (by decide) (by decide) (by decide)).1]
    exact h5
  · exact h6.up (eI _ _ (by decide) (by decide) (by decide) (by decide)) (fun a z => eA a (by omega) (by omega) (by omega))
  · exact h7.up (eI _ _ (by decide) (by decide) (by decide) (by decide)) (fun a z => eA a (by omega) (by omega) (by omega)) (fun a z => eL a (by omega))
  · exact h8.up (fun k _ => eI _ _ (by decide) (by decide) (by decide) (by decide)) (fun a z => eA a (by omega) (by omega) (by omega)) (eR _ _) (fun a _ z => eI _ _ (by omega) (by omega) (by omega) (by omega))
  · intro h17
    rw [eI 1 7 (by decide) (by decide) (by decide) (by decide)] at h17
    obtain ⟨t, g, l, w, X, tg, n, X', fs, tge, hs, m, D, fa, ht, r5, r9, tx, k1, k2⟩ := h9 h17
    rw [← eI 1 8 (by decide) (by decide) (by decide) (by decide)] at k1 k2
    exact ⟨t, g, l, w, X, tg, n, X', fs, tge, hs, m, D, fa, ht, (eR _ _).trans r5, (eR _ _).trans r9, tx.up ht (fun k _ _ => eI _ _ (by omega) (by omega) (by omega) (by omega)) (eI _ _ (by omega) (by omega) (by omega) (by omega)) (fun a _ _ => eA a (by omega) (by omega) (by omega)) ⟨(eA 43 (by decide) (by decide) (by decide)).1, (eA 44 (by decide) (by decide) (by decide)).1, (eA 45 (by decide) (by decide) (by decide)).1⟩ (fun a k _ _ => eI _ _ (by omega) (by omega) (by omega) (by omega)) (fun a _ _ => eA a (by omega) (by omega) (by omega)) (fun a _ _ => eL a (by omega)) (fun a z => (eA a (by omega) (by omega) (by omega)).1), fun z => (k1 z).up (fun k _ _ => eI _ _ (by decide) (by decide) (by decide) (by decide)) (fun k _ _ => eI _ _ (by decide) (by decide) (by decide) (by decide)) (fun a _ _ => eA a (by omega) (by omega) (by omega)), fun z => (eI _ _ (by decide) (by decide) (by decide) (by decide)).trans (k2 z)⟩
/-- what the answers want -/
theorem qq_3 : ∀ σ, Qq σ → Rp σ ∧ R9 σ ∧ Ri σ ∧ Rg σ ∧ Rv σ := by
  intro σ ⟨h1, h2, h3, h4, h5, ⟨h6, h7, h8⟩, h9⟩
  refine ⟨h5, h6, fun h17 => ?_, h7, h8⟩
  obtain ⟨t, g, l, w, X, tg, n, X', fs, tge, hs, m, D, fa, ht, r5, r9, ⟨-, -, -, -, -, ⟨-, ⟨b1, b2, b3, b4, b5⟩, -⟩, ⟨-, -, -, -, -, -, ⟨c1, c2, c3, -⟩, -⟩, -⟩, -⟩ := h9 h17
  rcases ht with ⟨rfl, rfl⟩ | ⟨rfl, rfl⟩
  · exact Or.inl ⟨r5, r9, b1.trans c2.symm, b2.trans c1.symm, b4.trans c3.symm⟩
  · exact Or.inr ⟨r5, r9, b1.trans c2.symm, b2.trans c1.symm, b4.trans c3.symm⟩
/-- the room -/
theorem ph_q (h3 : Kst σ) (h4 : Rst σ) : Ph σ ≤ 2900000 + gN σ 3 + gN σ 68 + gN σ 70 := by
  obtain ⟨-, h2, -, -, -, -, -, ⟨m54, m56, m55, m55'⟩, ⟨m58, m57, m57'⟩, m60, m61, m59, m59', -⟩ := h3
  obtain ⟨⟨n1, L1, b1, -, -, -, -, c1⟩, -⟩ := h2 4 (Or.inl rfl)
  obtain ⟨⟨n2, L2, b2, -, -, -, -, c2⟩, -⟩ := h2 20 (Or.inr rfl)
  have d0 : gN σ 6 = L1 := c1 0 (by decide)
  have d1 : gN σ 7 = L1 := c1 1 (by decide)
  have d2 : gN σ 8 = L1 := c1 2 (by decide)
  have d3 : gN σ 9 = L1 := c1 3 (by decide)
  have d4 : gN σ 10 = L1 := c1 4 (by decide)
  have d5 : gN σ 11 = L1 := c1 5 (by decide)
  have d6 : gN σ 12 = L1 := c1 6 (by decide)
  have d7 : gN σ 13 = L1 := c1 7 (by decide)
  have e0 : gN σ 22 = L2 := c2 0 (by decide)
  have e1 : gN σ 23 = L2 := c2 1 (by decide)
  have e2 : gN σ 24 = L2 := c2 2 (by decide)
  have e3 : gN σ 25 = L2 := c2 3 (by decide)
  have e4 : gN σ 26 = L2 := c2 4 (by decide)
  have e5 : gN σ 27 = L2 := c2 5 (by decide)
  have e6 : gN σ 28 = L2 := c2 6 (by decide)
  have e7 : gN σ 29 = L2 := c2 7 (by decide)
  clear c1 c2 h2
  obtain ⟨r1, ⟨⟨-, w1⟩, ⟨-, w2⟩, ⟨-, w3⟩, -, w4⟩, -, r4⟩ := h4
  obtain ⟨s1, s2, -⟩ := r1 79 (Or.inl rfl)
  obtain ⟨t1, t2, -⟩ := r1 115 (Or.inr rfl)
  have sk : ∀ {o : Nat}, Skx σ o → gN σ (o + 1) ≤ 100000 := fun {o} q => by
    obtain ⟨L, z⟩ := q
    exact z.2
  have p1 : gN σ 158 ≤ 100000 := sk (s1 157 (by simp))
  have p2 : gN σ 160 ≤ 100000 := sk (s1 159 (by simp))
  have p3 : gN σ 162 ≤ 100000 := sk (s1 161 (by simp))
  have p4 : gN σ 166 ≤ 100000 := sk (s1 165 (by simp))
  have p5 : gN σ 110 ≤ 100000 := sk (s1 109 (by simp))
  have p6 : gN σ 112 ≤ 100000 := sk (s1 111 (by simp))
  have p7 : gN σ 114 ≤ 100000 := sk (s1 113 (by simp))
  have p8 : gN σ 146 ≤ 100000 := sk (t1 145 (by simp))
  have p9 : gN σ 148 ≤ 100000 := sk (t1 147 (by simp))
  have p10 : gN σ 150 ≤ 100000 := sk (t1 149 (by simp))
  have q1 : gN σ 152 ≤ 40000 := (s2 151 (by simp)).2
  have q2 : gN σ 154 ≤ 40000 := (s2 153 (by simp)).2
  have q3 : gN σ 156 ≤ 40000 := (s2 155 (by simp)).2
  have q4 : gN σ 81 ≤ 40000 := (s2 80 (by simp)).2
  have q5 : gN σ 83 ≤ 40000 := (s2 82 (by simp)).2
  have q6 : gN σ 85 ≤ 40000 := (s2 84 (by simp)).2
  have q7 : gN σ 87 ≤ 40000 := (s2 86 (by simp)).2
  have q8 : gN σ 89 ≤ 40000 := (s2 88 (by simp)).2
  have q9 : gN σ 91 ≤ 40000 := (s2 90 (by simp)).2
  have q10 : gN σ 117 ≤ 40000 := (t2 116 (by simp)).2
  have q11 : gN σ 119 ≤ 40000 := (t2 118 (by simp)).2
  have q12 : gN σ 121 ≤ 40000 := (t2 120 (by simp)).2
  have q13 : gN σ 123 ≤ 40000 := (t2 122 (by simp)).2
  have q14 : gN σ 125 ≤ 40000 := (t2 124 (by simp)).2
  have q15 : gN σ 127 ≤ 40000 := (t2 126 (by simp)).2
  have v1 := (r4 176 (by omega)).2
  have v2 := (r4 178 (by omega)).2
  have v3 := (r4 180 (by omega)).2
  clear r1 r4 s1 s2 t1 t2 sk
  unfold Ph gra
  simp only [List.map_cons, List.map_nil, List.sum_cons, List.sum_nil]
  omega
end LAS
