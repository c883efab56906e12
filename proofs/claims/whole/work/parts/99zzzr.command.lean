/-! the reference's items: inside a command -/
/-- a command as far as its rules R0 go, nb branches of it done -/
def CmB (g x : Nat) (l : List Int32) (w : List (Nat × Nat × Nat)) (σ0 : st_S) (X : Tx) (fa : Nat → Nat) (k : Nat) (σ : st_S) (n : Nat) (D : Nat → Nat → Int32) (R0 : List (Nat × Tr)) (nb : Nat) : Prop := RN g x l w σ0 σ X n D fa ∧ gI σ 66 16 = 0 ∧ (gI σ g 6 = nI (cnt X.1 1 + cnt X.1 2) ∧ gI σ g 12 = nI (cnt X.1 3) ∧ gI σ g 18 = nI X.2.2.length ∧ cnt X.1 1 + cnt X.1 2 ≤ 60 ∧ cnt X.1 3 ≤ 12 ∧ X.2.2.length < 60) ∧ (gI σ (g + 30) 1 = nI (nsc X.2.2 + nsb (bsr R0)) ∧ gI σ (g + 32) 1 = nI (nsc X.2.2 + nsb (bsr R0)) ∧ gI σ (g + 34) 1 = nI (nsc X.2.2 + nsb (bsr R0))) ∧ (gE σ (g + 22) X.2.2.length = (if kK w k = 8 then 1 else 0) ∧ gE σ (g + 23) X.2.2.length = nI (kP w k)) ∧ (∃ a, gE σ (g + 24) X.2.2.length = nI a ∧ RuR l w X.1 fa D n 2 (gdr R0) a) ∧ gE σ (g + 25) X.2.2.length = nI nb ∧ nsc X.2.2 + nsb (bsr R0) ≤ n ∧ (bsr R0).length ≤ 8
def CmC (g x : Nat) (l : List Int32) (w : List (Nat × Nat × Nat)) (σ0 : st_S) (X : Tx) (fa : Nat → Nat) (k : Nat) (σ : st_S) (n : Nat) (D : Nat → Nat → Int32) (R0 : List (Nat × Tr)) : Prop := CmB g x l w σ0 X fa k σ n D R0 (bsr R0).length ∧ BrsR w (gE σ) (RuR l w X.1 fa D n) (VNm l w X.1) g X.2.2.length (nsc X.2.2) (bsr R0)
def CmO (g x : Nat) (l : List Int32) (w : List (Nat × Nat × Nat)) (σ0 : st_S) (X : Tx) (fa : Nat → Nat) (k : Nat) (σ : st_S) (n : Nat) (D : Nat → Nat → Int32) (R0 : List (Nat × Tr)) (b : Tr × List Tr) (B : List (Tr × List Tr)) : Prop := bsr R0 = b :: B ∧ CmB g x l w σ0 X fa k σ n D R0 B.length ∧ BrsR w (gE σ) (RuR l w X.1 fa D n) (VNm l w X.1) g X.2.2.length (nsc X.2.2) B ∧ BrR w (gE σ) (RuR l w X.1 fa D n) (VNm l w X.1) g (8 * X.2.2.length + B.length) (nsc X.2.2 + nsb B) b
section CM
variable {N g x n n' k e f : Nat} {σ σ0 σ' : st_S} {D D' : Nat → Nat → Int32} {w : List (Nat × Nat × Nat)} {l : List Int32} {X : Tx} {fa : Nat → Nat} {R0 : List (Nat × Tr)} {b : Tr × List Tr} {B : List (Tr × List Tr)} {er : Nat × Nat} {nb : Nat}
theorem CmB.fz (hg : g = 79 ∨ g = 115) (h : CmB g x l w σ0 X fa k σ n D R0 nb) (hM : RM g x l w X.1 σ0 σ' n' D') (fr : FZ g σ σ') (hn : n ≤ n') (hD : ∀ i, i < n → D' i = D i) (hf : gI σ' 66 16 = 0) : CmB g x l w σ0 X fa k σ' n' D' R0 nb := by
  obtain ⟨h1, h2, ⟨h3, h4, h5, h6⟩, ⟨h7, h8, h9⟩, ⟨h10, h11⟩, ⟨a, h12, h13⟩, h14, h15, h16⟩ := h
  have eI : ∀ a j, (a = g ∧ j ≠ 1) ∨ a = g + 30 ∨ a = g + 32 ∨ a = g + 34 → gI σ' a j = gI σ a j := fun a j z => fr.1 a j (by simp only [List.mem_cons, List.not_mem_nil, or_false, Prod.mk.injEq]; omega)
  have eE : ∀ a, g + 13 ≤ a → a ≤ g + 35 → gE σ' a = gE σ a := fun a z1 z2 => (fr.2.2.2.1 a (by simp only [List.mem_cons, List.not_mem_nil, or_false]; omega)).2
  refine ⟨h1.fz hg hM fr hn hD, hf, ⟨(eI _ _ (by omega)).trans h3, (eI _ _ (by omega)).trans h4, (eI _ _ (by omega)).trans h5, h6⟩, ⟨(eI _ _ (by omega)).trans h7, (eI _ _ (by omega)).trans h8, (eI _ _ (by omega)).trans h9⟩, ⟨by rw [eE _ (by omega) (by omega)]; exact h10, by rw [eE _ (by omega) (by omega)]; exact h11⟩, ⟨a, by rw [eE _ (by omega) (by omega)]; exact h12, h13.fr hn hD⟩, by rw [eE _ (by omega) (by omega)]; exact h14, by omega, h16⟩
theorem BrsR.fz (hg : g = 79 ∨ g = 115) {c s0 : Nat} (h : BrsR w (gE σ) (RuR l w X.1 fa D n) (VNm l w X.1) g c s0 B) (fr : FZ g σ σ') (hn : n ≤ n') (hD : ∀ i, i < n → D' i = D i) : BrsR w (gE σ') (RuR l w X.1 fa D' n') (VNm l w X.1) g c s0 B := by
  have eE : ∀ a, g + 13 ≤ a → a ≤ g + 35 → gE σ' a = gE σ a := fun a z1 z2 => (fr.2.2.2.1 a (by simp only [List.mem_cons, List.not_mem_nil, or_false]; omega)).2
  exact BrsR.mo (mb := 8 * c + B.length) (m := s0 + nsb B) (fun kd T a q => q.fr hn hD) (fun _ _ _ q => q) (fun a z1 z2 i _ => by rw [eE a (by omega) (by omega)]) (fun a ha i _ => by rw [eE a (by omega) (by omega)]) (Nat.le_refl _) (Nat.le_refl _) h
theorem BrR.fz (hg : g = 79 ∨ g = 115) {at' s0 : Nat} (h : BrR w (gE σ) (RuR l w X.1 fa D n) (VNm l w X.1) g at' s0 b) (fr : FZ g σ σ') (hn : n ≤ n') (hD : ∀ i, i < n → D' i = D i) : BrR w (gE σ') (RuR l w X.1 fa D' n') (VNm l w X.1) g at' s0 b := by
  have eE : ∀ a, g + 13 ≤ a → a ≤ g + 35 → gE σ' a = gE σ a := fun a z1 z2 => (fr.2.2.2.1 a (by simp only [List.mem_cons, List.not_mem_nil, or_false]; omega)).2
  exact BrR.mo (m := s0 + b.2.length) h (fun kd T a q => q.fr hn hD) (fun _ _ _ q => q) (fun a z1 z2 => by rw [eE a (by omega) (by omega)]) (fun a ha i _ => by rw [eE a (by omega) (by omega)]) (Nat.le_refl _)
/-- behind a fault a command ends -/
theorem L204f (G : RG0 N g x l w σ0) {E : List En} (hM : RM g x l w E σ0 σ n D) (h1 : gI σ 66 16 = nI er.1) (h0 : ¬ nI er.1 = 0) (h2 : gI σ 66 17 = nI er.2) {y1 y2 y3 : Int32} : RFl g x l w σ0 er (L_204 N g x (f + 1) y1 y2 y3 σ) := by
  have hg := G.1
  refine ⟨st_i σ g 18 (y2 + 1), E, n, D, ?_, ?_, ?_, hM.i hg G.2.1 _ (Or.inl ⟨rfl, by omega⟩)⟩
  · unfold L_204
    rw [if_neg (by rw [h1]; exact h0)]
  · rw [gI_i, if_neg (by omega)]; exact h1
  · rw [gI_i, if_neg (by omega)]; exact h2
theorem J205f (G : RG0 N g x l w σ0) {E : List En} (hM : RM g x l w E σ0 σ n D) (h1 : gI σ 66 16 = nI er.1) (h0 : ¬ nI er.1 = 0) (h2 : gI σ 66 17 = nI er.2) {c a : Nat} (hc : c < 60) (ha : a < 480) {y1 y2 y4 y7 : Int32} : RFl g x l w σ0 er ((J_205_195 N g x (nI c) y4 (nI a) y7 σ).bind fun p => L_204 N g x (f + 1) y1 y2 (p.1 + 1) p.2) := by
  obtain ⟨-, -, l3, l4, -⟩ := hM.2.1
  have aA : aB (nI a) 480 := aB_nI ha (by decide)
  have aC : aB (nI c) 60 := aB_nI hc (by decide)
  unfold J_205_195
  rw [l4 (g + 28) (by omega) (by omega), l4 (g + 29) (by omega) (by omega), l3 (g + 25) (by omega) (by omega), if_pos aA, if_pos aA, if_pos aC, ob_some]
  exact L204f G ((hM.e G.1 G.2.1 _ (by omega)).e G.1 G.2.1 _ (by omega)) h1 h0 h2
theorem L205f (G : RG0 N g x l w σ0) {E : List En} (hM : RM g x l w E σ0 σ n D) (h1 : gI σ 66 16 = nI er.1) (h0 : ¬ nI er.1 = 0) (h2 : gI σ 66 17 = nI er.2) {c a : Nat} (hc : c < 60) (ha : a < 480) {y1 y2 y4 y7 y8 : Int32} {f' : Nat} : RFl g x l w σ0 er ((L_205 N g x (f' + 1) (nI c) y4 (nI a) y7 y8 σ).bind fun p => L_204 N g x (f + 1) y1 y2 (p.1 + 1) p.2) := by
  have e : L_205 N g x (f' + 1) (nI c) y4 (nI a) y7 y8 σ = J_205_195 N g x (nI c) y4 (nI a) y7 σ := by
    unfold L_205
    rw [if_neg (show ¬ gI σ 66 16 = 0 by rw [h1]; exact h0), ite_self]
  rw [e]
  exact J205f G hM h1 h0 h2 hc ha
/-- writes behind the old rows -/
theorem RN.ec (hg : g = 79 ∨ g = 115) (hx : x = 67 ∨ x = 69) (h : RN g x l w σ0 σ X n D fa) {a r : Nat} (v : Int32) (ha : (g + 22 ≤ a ∧ a ≤ g + 25 ∧ X.2.2.length ≤ r) ∨ (g + 26 ≤ a ∧ a ≤ g + 29 ∧ 8 * X.2.2.length ≤ r)) : RN g x l w σ0 (st_e σ a r v) X n D fa := by
  obtain ⟨h1, h2, h3, h4, h5, h6, h7⟩ := h
  refine ⟨h1.e hg hx v (by omega), h2.fr (Nat.le_refl _) (fun _ _ => rfl) (fun b hb j hj s => ?_) (fun b hb j hj s => ?_) (fun b hb j hj s => rfl), h3, h4, h5, ?_, h7⟩
  · rw [gE_e, if_neg (by omega)]
  · rw [gE_e, if_neg (by omega)]
  · exact CosR.mo (mc := X.2.2.length) (m := nsc X.2.2) (fun kd T a q => q) (fun _ _ _ q => q) (fun b z1 z2 i _ => by rw [gE_e, if_neg (by omega)]) (fun b z1 z2 i _ => by rw [gE_e, if_neg (by omega)]) (fun b hb i _ => by rw [gE_e, if_neg (by omega)]) (Nat.le_refl _) (Nat.le_refl _) h6
/-- a branch is closed -/
theorem CmO.cl (G : RG0 N g x l w σ0) (h : CmO g x l w σ0 X fa k σ n D R0 b B) {y7 : Int32} : ∃ σ', J_205_195 N g x (nI X.2.2.length) (nI B.length) (nI (8 * X.2.2.length + B.length)) y7 σ = some (y7, σ') ∧ CmC g x l w σ0 X fa k σ' n D R0 := by
  have hg := G.1
  have hx := G.2.1
  obtain ⟨h0, ⟨h1, h2, ⟨h3, h4, h5, h6, h6', hc60⟩, ⟨h7, h8, h9⟩, ⟨h10, h11⟩, ⟨a, h12, h13⟩, h14, h15, h16⟩, hB, hb⟩ := h
  have hb8 : B.length + 1 ≤ 8 := by rw [h0] at h16; exact h16
  have ns : nsb (bsr R0) = b.2.length + nsb B := by rw [h0]; rfl
  obtain ⟨-, -, l3, l4, -⟩ := h1.1.2.1
  have aA : aB (nI (8 * X.2.2.length + B.length)) 480 := aB_nI (by omega) (by decide)
  have aC : aB (nI X.2.2.length) 60 := aB_nI hc60 (by decide)
  have cA : (nI (8 * X.2.2.length + B.length)).toNatClampNeg = 8 * X.2.2.length + B.length := nI_clamp (by omega)
  have cC : (nI X.2.2.length).toNatClampNeg = X.2.2.length := nI_clamp (by omega)
  have first : gE σ (g + 28) (8 * X.2.2.length + B.length) = nI (nsc X.2.2 + nsb B) := hb.2.2.1
  have many : gI σ (g + 30) 1 - gE σ (g + 28) (8 * X.2.2.length + B.length) = nI b.2.length := by
    rw [h7, first, nI_sub (by omega)]
    congr 1
    omega
  refine ⟨st_e (st_e σ (g + 29) (8 * X.2.2.length + B.length) (nI b.2.length)) (g + 25) X.2.2.length (nI (B.length + 1)), ?_, ?_⟩
  · unfold J_205_195
    rw [l4 (g + 28) (by omega) (by omega), l4 (g + 29) (by omega) (by omega), l3 (g + 25) (by omega) (by omega), if_pos aA, if_pos aA, if_pos aC, cA, cC, many, nI_1]
  · have q := (h1.ec hg hx (a := g + 29) (r := 8 * X.2.2.length + B.length) (nI b.2.length) (by omega)).ec hg hx (a := g + 25) (r := X.2.2.length) (nI (B.length + 1)) (by omega)
    have ge : ∀ a i, a ≠ g + 29 → a ≠ g + 25 → gE (st_e (st_e σ (g + 29) (8 * X.2.2.length + B.length) (nI b.2.length)) (g + 25) X.2.2.length (nI (B.length + 1))) a i = gE σ a i := fun a i z1 z2 => by rw [gE_e, if_neg (fun z => z2 z.1), gE_e, if_neg (fun z => z1 z.1)]
    have g29 : ∀ i, gE (st_e (st_e σ (g + 29) (8 * X.2.2.length + B.length) (nI b.2.length)) (g + 25) X.2.2.length (nI (B.length + 1))) (g + 29) i = if i = 8 * X.2.2.length + B.length then nI b.2.length else gE σ (g + 29) i := fun i => by
      rw [gE_e, if_neg (by omega), gE_e]
      by_cases c : i = 8 * X.2.2.length + B.length
      · rw [if_pos ⟨rfl, c⟩, if_pos c]
      · rw [if_neg (fun z => c z.2), if_neg c]
    refine ⟨⟨q, h2, ⟨h3, h4, h5, h6, h6', hc60⟩, ⟨h7, h8, h9⟩, ⟨(ge _ _ (by omega) (by omega)).trans h10, (ge _ _ (by omega) (by omega)).trans h11⟩, ⟨a, (ge _ _ (by omega) (by omega)).trans h12, h13⟩, ?_, h15, h16⟩, ?_⟩
    · rw [gE_e, if_pos ⟨rfl, rfl⟩, h0]; rfl
    · rw [h0]
      refine ⟨BrsR.mo (mb := 8 * X.2.2.length + B.length) (m := nsc X.2.2 + nsb B) (fun kd T a q => q) (fun _ _ _ q => q) (fun a z1 z2 i hi => ?_) (fun a ha i _ => ge _ _ (by omega) (by omega)) (Nat.le_refl _) (Nat.le_refl _) hB, BrR.mo (m := nsc X.2.2 + nsb B + b.2.length) hb (fun kd T a q => q) (fun _ _ _ q => q) (fun a z1 z2 => ge _ _ (by omega) (by omega)) (fun a ha i _ => ge _ _ (by omega) (by omega)) (Nat.le_refl _), ?_⟩
      · by_cases c : a = g + 29
        · subst c
          rw [g29, if_neg (by omega)]
        · exact ge _ _ c (by omega)
      · rw [g29, if_pos rfl]
/-- the command's end -/
theorem L204e (G : RG0 N g x l w σ0) (h : CmC g x l w σ0 X fa k σ n D R0) {from' i : Nat} (he : e ≤ from') (hf : from' < 40000) (hn : n ≤ i) : ItR g x l w σ0 i (.inr (X.1, X.2.1, (31, k, R0) :: X.2.2)) (L_204 N g x (f + 1) (nI e) (nI X.2.2.length) (nI from') σ) := by
  have hg := G.1
  have hx := G.2.1
  obtain ⟨⟨h1, h2, ⟨h3, h4, h5, h6, h6', hc60⟩, ⟨h7, h8, h9⟩, ⟨h10, h11⟩, hga, h14, h15, h16⟩, hB⟩ := h
  have q := h1.i hg hx (nI (X.2.2.length + 1)) (Or.inl ⟨rfl, Or.inr (Or.inr rfl)⟩) (a := g) (k := 18)
  obtain ⟨q1, q2, q3, q4, q5, q6, q7⟩ := q
  have gi : ∀ a j, ¬ (a = g ∧ j = 18) → gI (st_i σ g 18 (nI (X.2.2.length + 1))) a j = gI σ a j := fun a j z => by rw [gI_i, if_neg z]
  have nscE : nsc ((31, k, R0) :: X.2.2) = nsc X.2.2 + nsb (bsr R0) := by
    rw [nsc_c]
    exact Nat.add_comm _ _
  refine ⟨st_i σ g 18 (nI (X.2.2.length + 1)), n, D, fa, ?_, ⟨⟨q1, q2, q3, q4, q5, ⟨q6, h10, h11, hga, h14, h16, hB⟩, by rw [nscE]; exact h15⟩, (gi _ _ (by omega)).trans h2, ⟨(gi _ _ (by omega)).trans h3, (gi _ _ (by omega)).trans h4, ?_, h6, h6', by show X.2.2.length + 1 ≤ 60; omega, ?_, ?_, ?_⟩⟩, hn⟩
  · unfold L_204
    rw [if_pos h2, if_pos ((nI_lei (by omega) (by omega)).mpr he), nI_1]
  · rw [gI_i, if_pos ⟨rfl, rfl⟩]; rfl
  · rw [gi _ _ (by omega), h7]
    exact congrArg nI nscE.symm
  · rw [gi _ _ (by omega), h8]
    exact congrArg nI nscE.symm
  · rw [gi _ _ (by omega), h9]
    exact congrArg nI nscE.symm
end CM
