/-! the reference's items: tables are written -/
section WR
variable {N g x n : Nat} {σ σ0 σ' : st_S} {D : Nat → Nat → Int32} {w : List (Nat × Nat × Nat)} {l : List Int32} {X : Tx} {E : List En} {fa : Nat → Nat} {I : List (Nat × Nat)} {A L : List Nat}
theorem NR.e (hg : g = 79 ∨ g = 115) (h : NR σ g E) {a r : Nat} (v : Int32) (ha : g + 13 ≤ a ∧ a ≤ g + 29) (h1 : a = g + 14 → ∀ j, j < E.length → (E.getD j eN).2.1 ≠ 3 → rnm E j ≠ r) (h3 : a = g + 18 → ∀ j, j < E.length → (E.getD j eN).2.1 = 3 → rnm E j ≠ r) : NR (st_e σ a r v) g E := by
  have fr : Fr 0 [] [] [] [a] [] σ (st_e σ a r v) := Fr.e σ r v (by simp)
  obtain ⟨n1, n2, n3, n4, n5, n6, n7⟩ := h
  have na : ∀ b, 152 ≤ b → b ≤ 156 → b ∉ [a] := fun b z1 z2 => by simp only [List.mem_cons, List.not_mem_nil, or_false]; omega
  refine ⟨n1.fr fr (by simp) (na _ (by decide) (by decide)), n2.fr fr (by simp) (na _ (by decide) (by decide)), n3.fr fr (by simp) (na _ (by decide) (by decide)), n4, n5, n6, fun j hj => ?_⟩
  obtain ⟨q1, q2, q3, q4⟩ := n7 j hj
  refine ⟨q1, q2, fun s => ⟨(q3 s).1, ?_⟩, fun s => ⟨(q4 s).1, ?_⟩⟩
  · rw [gE_e, if_neg (fun z => h3 z.1.symm j hj s z.2)]
    exact (q3 s).2
  · rw [gE_e, if_neg (fun z => h1 z.1.symm j hj s z.2)]
    exact (q4 s).2
/-- a table's entry is written: one that no name has -/
theorem RM.en (hg : g = 79 ∨ g = 115) (hx : x = 67 ∨ x = 69) (h : RM g x l w E σ0 σ n D) {a r : Nat} (v : Int32) (ha : g + 13 ≤ a ∧ a ≤ g + 29 ∧ a ≠ g + 16 ∧ a ≠ g + 17) (h1 : a = g + 14 → ∀ j, j < E.length → (E.getD j eN).2.1 ≠ 3 → rnm E j ≠ r) (h3 : a = g + 18 → ∀ j, j < E.length → (E.getD j eN).2.1 = 3 → rnm E j ≠ r) : RM g x l w E σ0 (st_e σ a r v) n D := by
  by_cases c : a = g + 14 ∨ a = g + 18
  · obtain ⟨⟨b1, b2, b3, b4, b5, ⟨L7, b6⟩, ⟨L9, b7⟩, ⟨L1, b8⟩⟩, h2, k1, k2, k3, k4⟩ := h
    have fr : Fr 0 [] [] [] [a] [] σ (st_e σ a r v) := Fr.e σ r v (by simp)
    have hl := h2
    obtain ⟨a1, a2, a3, a4, -⟩ := h2
    have na : ∀ b, b ≠ a → b ∉ [a] := fun b z => by simp only [List.mem_cons, List.not_mem_nil, or_false]; exact z
    refine ⟨⟨b1.mo fr (by simp) (fun b z => ?_) (by simp) (fun b z => ?_), b2.fr fr (by simp) (fun b z1 z2 => na b (by omega)), b3.fr fr (by simp) (na _ (by omega)), b4.e hg v ⟨ha.1, ha.2.1⟩ h1 h3, b5.fr fr (by simp) (fun b z1 z2 => na b (by omega)), ⟨L7, b6.fr fr (by simp) (na _ (by omega))⟩, ⟨L9, b7.fr fr (by simp) (na _ (by omega))⟩, ⟨L1, b8.fr fr (by simp) (na _ (by omega))⟩⟩, hl.eq rfl, k1.fr fr (by simp) (na _ (by omega)), k2.fr fr (by simp) (na _ (by omega)), k3.fr fr (by simp) (na _ (by omega)), k4.fr fr (by simp) (na _ (by omega))⟩
    · simp only [List.mem_cons, List.not_mem_nil, or_false] at z
      subst z
      simp only [RAf, List.mem_cons, List.not_mem_nil, or_false]
      omega
    · simp only [List.mem_cons, List.not_mem_nil, or_false] at z
      subst z
      show gN σ b ≤ 100000
      rcases c with rfl | rfl
      · rw [a1 _ (by omega) (by omega)]; decide
      · rw [a2 _ (by omega) (by omega)]; decide
  · exact h.e hg hx v (by omega)
theorem NCt.eq (h : NCt σ g X) (e : gI σ' = gI σ) : NCt σ' g X := by
  unfold NCt
  rw [e]
  exact h
/-- .. of consts and formulas -/
theorem RN.e1 (hg : g = 79 ∨ g = 115) (hx : x = 67 ∨ x = 69) (h : RN g x l w σ0 σ X n D fa) {a r : Nat} (v : Int32) (ha : a = g + 13 ∨ a = g + 14 ∨ a = g + 15) (hr : r = cnt X.1 1 + cnt X.1 2) : RN g x l w σ0 (st_e σ a r v) X n D fa := by
  obtain ⟨h1, h2, h3, h4, h5, h6, h7⟩ := h
  have nr : ∀ j, j < X.1.length → (X.1.getD j eN).2.1 ≠ 3 → rnm X.1 j ≠ r := fun j hj s => by have := h2.2.2.1 j hj s; omega
  refine ⟨h1.en hg hx v (by omega) (fun _ => nr) (fun z => by omega), h2.fr (Nat.le_refl _) (fun _ _ => rfl) (fun b hb j hj s => ?_) (fun b hb j hj s => ?_) (fun b hb j hj s => rfl), h3, h4, h5, ?_, h7⟩
  · rw [gE_e, if_neg (fun z => nr j hj s z.2)]
  · rw [gE_e, if_neg (by omega)]
  · exact CosR.mo (mc := X.2.2.length) (m := nsc X.2.2) (fun kd T a q => q) (fun _ _ _ q => q) (fun b z1 z2 i _ => by rw [gE_e, if_neg (by omega)]) (fun b z1 z2 i _ => by rw [gE_e, if_neg (by omega)]) (fun b hb i _ => by rw [gE_e, if_neg (by omega)]) (Nat.le_refl _) (Nat.le_refl _) h6
theorem RN.eL (hg : g = 79 ∨ g = 115) (hx : x = 67 ∨ x = 69) (h : RN g x l w σ0 σ X n D fa) {a r : Nat} (v : Int64) (ha : a = g + 16 ∨ a = g + 17) (hr : r = cnt X.1 1 + cnt X.1 2) : RN g x l w σ0 (st_E σ a r v) X n D fa := by
  obtain ⟨h1, h2, h3, h4, h5, h6, h7⟩ := h
  have nr : ∀ j, j < X.1.length → (X.1.getD j eN).2.1 ≠ 3 → rnm X.1 j ≠ r := fun j hj s => by have := h2.2.2.1 j hj s; omega
  refine ⟨h1.eL hg hx v ha, h2.fr (Nat.le_refl _) (fun _ _ => rfl) (fun b hb j hj s => rfl) (fun b hb j hj s => rfl) (fun b hb j hj s => ?_), h3, h4, h5, h6, h7⟩
  rw [gL_E, if_neg (fun z => nr j hj s z.2)]
/-- .. of vars -/
theorem RN.e3 (hg : g = 79 ∨ g = 115) (hx : x = 67 ∨ x = 69) (h : RN g x l w σ0 σ X n D fa) {a r : Nat} (v : Int32) (ha : g + 18 ≤ a ∧ a ≤ g + 21) (hr : r = cnt X.1 3) : RN g x l w σ0 (st_e σ a r v) X n D fa := by
  obtain ⟨h1, h2, h3, h4, h5, h6, h7⟩ := h
  have nr : ∀ j, j < X.1.length → (X.1.getD j eN).2.1 = 3 → rnm X.1 j ≠ r := fun j hj s => by have := (h2.2.1 j hj s).1; omega
  refine ⟨h1.en hg hx v (by omega) (fun z => by omega) (fun _ => nr), h2.fr (Nat.le_refl _) (fun _ _ => rfl) (fun b hb j hj s => ?_) (fun b hb j hj s => ?_) (fun b hb j hj s => rfl), h3, h4, h5, ?_, h7⟩
  · rw [gE_e, if_neg (by omega)]
  · rw [gE_e, if_neg (fun z => nr j hj s z.2)]
  · exact CosR.mo (mc := X.2.2.length) (m := nsc X.2.2) (fun kd T a q => q) (fun _ _ _ q => q) (fun b z1 z2 i _ => by rw [gE_e, if_neg (by omega)]) (fun b z1 z2 i _ => by rw [gE_e, if_neg (by omega)]) (fun b hb i _ => by rw [gE_e, if_neg (by omega)]) (Nat.le_refl _) (Nat.le_refl _) h6
theorem RN.i (hg : g = 79 ∨ g = 115) (hx : x = 67 ∨ x = 69) (h : RN g x l w σ0 σ X n D fa) {a k : Nat} (v : Int32) (ha : (a = g ∧ (k = 6 ∨ k = 12 ∨ k = 18)) ∨ (a = 66 ∧ (k = 16 ∨ k = 17 ∨ k = 23))) : RN g x l w σ0 (st_i σ a k v) X n D fa := by
  have fr : Fr 0 [(a, k)] [] [] [] [] σ (st_i σ a k v) := Fr.i σ v (by simp)
  exact h.fr (h.1.i hg hx v (by omega)) fr (Nat.le_refl _) (fun _ _ => rfl) (by simp only [List.mem_cons, List.not_mem_nil, or_false, Prod.mk.injEq]; omega) (by simp) (by simp)
theorem cnt_all : ∀ {E : List En}, (∀ j, j < E.length → 1 ≤ (E.getD j eN).2.1 ∧ (E.getD j eN).2.1 ≤ 3) → E.length = cnt E 1 + cnt E 2 + cnt E 3 := by
  intro E
  induction E with
  | nil => intro _; rfl
  | cons e E ih =>
    intro h
    have h0 : 1 ≤ e.2.1 ∧ e.2.1 ≤ 3 := h 0 (Nat.succ_pos _)
    have := ih (fun j hj => h (j + 1) (Nat.succ_lt_succ hj))
    have c : ∀ s, cnt (e :: E) s = (if e.2.1 = s then 1 else 0) + cnt E s := fun s => by
      unfold cnt
      rw [List.filter_cons]
      by_cases q : e.2.1 = s
      · rw [if_pos (by simpa using q), if_pos q, List.length_cons]; omega
      · rw [if_neg (by simpa using q), if_neg q]; omega
    rw [c 1, c 2, c 3, List.length_cons]
    have : e.2.1 = 1 ∨ e.2.1 = 2 ∨ e.2.1 = 3 := by omega
    rcases this with z | z | z <;> rw [z] <;> simp <;> omega
end WR
