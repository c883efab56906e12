/-! the class's machine: what it rests on -/
theorem Code.mono {Lf Lf' : Nat → Nat → Prop} {M M' : Nat → Nat → Int32} {w : List (Nat × Nat × Nat)} (h1 : ∀ i op pl a b c, Nd M i op pl a b c → Nd M' i op pl a b c) (h2 : ∀ i op a c, Nj M i op a c → Nj M' i op a c) (h3 : ∀ k i, Lf k i → Lf' k i) : ∀ (T : Tr) (a : Nat), Code Lf M w T a → Code Lf' M' w T a := by
  intro T
  induction T with
  | leaf k => intro a h; exact h3 k a h
  | branch n l r il ir =>
    intro a h
    unfold Code at h ⊢
    by_cases c1 : n % 64 = 9 ∨ n % 64 = 16 ∨ n % 64 = 22
    · rw [if_pos c1] at h ⊢
      exact ⟨ir a h.1, h1 _ _ _ _ _ _ h.2⟩
    rw [if_neg c1] at h ⊢
    by_cases c2 : n % 64 = 35
    · rw [if_pos c2] at h ⊢
      exact ir a h
    rw [if_neg c2] at h ⊢
    by_cases c3 : n % 64 = 17 ∨ n % 64 = 18
    · rw [if_pos c3] at h ⊢
      exact ⟨il a h.1, h2 _ _ _ _ h.2.1, ir _ h.2.2.1, h1 _ _ _ _ _ _ h.2.2.2⟩
    rw [if_neg c3] at h ⊢
    by_cases c4 : n % 64 = 19
    · rw [if_pos c4] at h ⊢
      exact ⟨il a h.1, h2 _ _ _ _ h.2.1, ir _ h.2.2.1, h1 _ _ _ _ _ _ h.2.2.2⟩
    rw [if_neg c4] at h ⊢
    by_cases c5 : n % 64 = 37
    · rw [if_pos c5] at h ⊢
      exact ⟨il a h.1, h2 _ _ _ _ h.2.1, ir _ h.2.2⟩
    rw [if_neg c5] at h ⊢
    exact ⟨il a h.1, ir _ h.2.1, h1 _ _ _ _ _ _ h.2.2⟩
/-- values alone have changed -/
def Sta (M M' : Nat → Nat → Int32) : Prop := ∀ i, (∀ c, c < 5 → M' i c = M i c) ∧ (M i 0 = 0 → M' i = M i) ∧ (((M i 0 = 2 ∨ ∃ op, 10 ≤ op ∧ op ≤ 18 ∧ M i 0 = nI op) → M' i 7 = M i 7) ∧ ((M i 0 = 2 ∨ ∃ op, 4 ≤ op ∧ op ≤ 18 ∧ M i 0 = nI op) → M' i 5 = M i 5))
theorem Sta.rf (M : Nat → Nat → Int32) : Sta M M := fun _ => ⟨fun _ _ => rfl, fun _ => rfl, fun _ => rfl, fun _ => rfl⟩
theorem Sta.tr {M M' M'' : Nat → Nat → Int32} (h : Sta M M') (h' : Sta M' M'') : Sta M M'' := fun i => by
  obtain ⟨a1, a2, a3⟩ := h i
  obtain ⟨b1, b2, b3⟩ := h' i
  refine ⟨fun c hc => (b1 c hc).trans (a1 c hc), fun z => ?_, fun z => ?_, fun z => ?_⟩
  · rw [b2 (by rw [a1 0 (by decide)]; exact z), a2 z]
  · rw [b3.1 (by rw [a1 0 (by decide)]; exact z), a3.1 z]
  · rw [b3.2 (by rw [a1 0 (by decide)]; exact z), a3.2 z]
theorem Sta.nd {M M' : Nat → Nat → Int32} (h : Sta M M') {i op pl : Nat} {a b c : Int32} (q : Nd M i op pl a b c) : Nd M' i op pl a b c := by
  obtain ⟨h1, h2, h3⟩ := h i
  obtain ⟨q0, q1, q2, q3, q4, q7⟩ := q
  refine ⟨(h1 0 (by decide)).trans q0, (h1 1 (by decide)).trans q1, (h1 2 (by decide)).trans q2, (h1 3 (by decide)).trans q3, (h1 4 (by decide)).trans q4, fun z => ?_⟩
  rw [h3.1 (Or.inr ⟨op, z.1, z.2, q0⟩)]
  exact q7 z
theorem Sta.nj {M M' : Nat → Nat → Int32} (h : Sta M M') {i op : Nat} {a c : Int32} (q : Nj M i op a c) : Nj M' i op a c := by
  obtain ⟨h1, h2, h3⟩ := h i
  exact ⟨(h1 0 (by decide)).trans q.1, (h1 2 (by decide)).trans q.2.1, (h1 4 (by decide)).trans q.2.2⟩
theorem Sta.cr {l : List Int32} {w : List (Nat × Nat × Nat)} {E : List En} {X : Nat → Nat} {M M' : Nat → Nat → Int32} (h : Sta M M') {T : Tr} {a : Nat} (q : Cr l w E X M T a) : Cr l w E X M' T a := by
  refine ⟨Code.mono (fun _ _ _ _ _ _ z => h.nd z) (fun _ _ _ _ z => h.nj z) (fun k i z => ?_) T a q.1, fun i op i1 i2 i3 i4 i5 => ?_⟩
  rotate_left
  · obtain ⟨h1, h2, h3⟩ := h i
    rw [h1 0 (by decide)] at i5
    rw [h3.2 (Or.inr ⟨op, i3, i4, i5⟩)]
    exact q.2 i op i1 i2 i3 i4 i5
  obtain ⟨h1, h2, h3⟩ := h i
  rcases z with z | z | z | ⟨z1, j, z2, z3, z⟩
  · exact Or.inl (by rw [h2 z.2.1]; exact z)
  · exact Or.inr (Or.inl (by rw [h2 z.2.1]; exact z))
  · exact Or.inr (Or.inr (Or.inl (by rw [h2 z.2.1]; exact z)))
  · refine Or.inr (Or.inr (Or.inr ⟨z1, j, z2, z3, ?_⟩))
    rcases z with z | z | z
    · exact Or.inl (by rw [h2 z.2.1]; exact z)
    · exact Or.inr (Or.inl ⟨z.1, (h1 0 (by decide)).trans z.2.1, (h1 2 (by decide)).trans z.2.2⟩)
    · exact Or.inr (Or.inr ⟨z.1, (h1 0 (by decide)).trans z.2.1, (h1 2 (by decide)).trans z.2.2.1, (h3.1 (Or.inl z.2.1)).trans z.2.2.2.1, (h3.2 (Or.inl z.2.1)).trans z.2.2.2.2⟩)
theorem Nx.sta {t n : Nat} {σ σ' : st_S} {M M' : Nat → Nat → Int32} {i : Nat} {v : Int64 × Int64} (h : Nx t n σ M i v σ' M') (h0 : ¬ M i 0 = 0) : Sta M M' := fun j => by
  obtain ⟨h1, h2, h3, h4, -⟩ := h
  by_cases c : j = i
  · subst c
    exact ⟨h3, fun z => absurd z h0, h4⟩
  · rw [h2 j c]
    exact ⟨fun _ _ => rfl, fun _ => rfl, fun _ => rfl, fun _ => rfl⟩
/-- names stand before the m-th -/
def NBl (l : List Int32) (w : List (Nat × Nat × Nat)) (E : List En) (m : Nat) : Tr → Prop
  | .leaf k => kK w k = 1 → ∃ j, fnd l w E k = some j ∧ j < m
  | .branch n l' r => (un (n % 64) = false → NBl l w E m l') ∧ NBl l w E m r
theorem evl_cg {l : List Int32} {w : List (Nat × Nat × Nat)} {E : List En} {m : Nat} {fv fv' : Nat → Rs (Int64 × Int64)} (h : ∀ j, j < m → fv j = fv' j) : ∀ (T : Tr) (c : Bool), Wf w T → NBl l w E m T → evl l w E fv T c = evl l w E fv' T c := by
  intro T
  induction T with
  | leaf k =>
    intro c hW hB
    have hW : opd (kK w k) = true := hW
    simp only [opd, Bool.or_eq_true, decide_eq_true_eq] at hW
    unfold evl
    by_cases c2 : kK w k = 2
    · rw [if_pos c2, if_pos c2]
    rw [if_neg c2, if_neg c2]
    by_cases c3 : kK w k = 12
    · rw [if_pos c3, if_pos c3]
    rw [if_neg c3, if_neg c3]
    by_cases c4 : kK w k = 13
    · rw [if_pos c4, if_pos c4]
    rw [if_neg c4, if_neg c4]
    obtain ⟨j, j1, j2⟩ := hB (by omega)
    rw [j1]
    exact h j j2
  | branch n l' r il ir =>
    intro c hW hB
    obtain ⟨hWl, hWr, -, -⟩ := hW
    obtain ⟨hBl, hBr⟩ := hB
    unfold evl
    by_cases cu : un (n % 64) = true
    · rw [if_pos cu, if_pos cu, ir false hWr hBr]
    · rw [if_neg cu, if_neg cu]
      have cu0 : un (n % 64) = false := by simpa using cu
      have L := fun c => il c (hWl cu0) (hBl cu0)
      have R := fun c => ir c hWr hBr
      rw [L false, R false]
      congr 1
      congr 1
      funext u
      rw [R (decide (u.1 = 1))]
/-- the formulas stand in the code -/
def fTr (E : List En) (j : Nat) : Tr := (E.getD j eN).2.2.2.1
def MF (σ : st_S) (t n : Nat) (M : Nat → Nat → Int32) (l : List Int32) (w : List (Nat × Nat × Nat)) (E : List En) (X fs : Nat → Nat) : Prop := CS σ t n M ∧ gN σ 43 = 12 ∧ gN σ 44 = 60 ∧ gN σ 45 = 60 ∧ gN σ (t + 14) = 60 ∧ ∀ j, j < E.length → (E.getD j eN).2.1 = 2 → gE σ (t + 14) (X j) = nI (fs j + tln (fTr E j)) ∧ fs j + tln (fTr E j) < n ∧ M (fs j + tln (fTr E j)) 0 = nI 26 ∧ M (fs j + tln (fTr E j)) 2 = nI (fs j + tln (fTr E j) - 1) ∧ M (fs j + tln (fTr E j)) 4 = nI (fs j) ∧ Cr l w E X M (fTr E j) (fs j)
/-- what doesn't change: the names' numbers, where the formulas stand -/
def SF (l : List Int32) (w : List (Nat × Nat × Nat)) (E : List En) (X fs : Nat → Nat) : Prop :=
  (∀ j, j < E.length → (E.getD j eN).2.1 = 3 → X j < 12 ∧ X j = (E.getD j eN).2.2.2.2.2.2.1) ∧
  (∀ j, j < E.length → (E.getD j eN).2.1 = 2 → X j < 60 ∧ Wf w (fTr E j) ∧ lev (fTr E j) ≤ 6 ∧ NBl l w E j (fTr E j) ∧ chk l w E false (fTr E j) = .inr (kdn (E.getD j eN))) ∧
  (∀ i j, i < E.length → j < E.length → (E.getD i eN).2.1 = 2 → (E.getD j eN).2.1 = 2 → i ≠ j → X i ≠ X j ∧ (fs i + tln (fTr E i) < fs j ∨ fs j + tln (fTr E j) < fs i))
/-- formulas before the m-th -/
def nfo (E : List En) (m : Nat) : Nat := ((List.range m).map fun j => if (E.getD j eN).2.1 = 2 then 1 else 0).sum
theorem nfo_s (E : List En) (m : Nat) : nfo E (m + 1) = nfo E m + (if (E.getD m eN).2.1 = 2 then 1 else 0) := by
  unfold nfo
  rw [List.range_succ, List.map_append, List.sum_append]
  rfl
theorem nfo_le {E : List En} {a b : Nat} (h : a ≤ b) : nfo E a ≤ nfo E b := by
  induction b with
  | zero => rw [Nat.le_zero.mp h]; exact Nat.le_refl _
  | succ b ih =>
    by_cases c : a = b + 1
    · rw [c]; exact Nat.le_refl _
    · have := ih (by omega)
      rw [nfo_s]
      omega
/-- what a formula that was not met may still cost -/
def trm (E : List En) (X : Nat → Nat) (σ : st_S) (j : Nat) : Nat := if (E.getD j eN).2.1 = 2 ∧ ¬ gE σ 44 (X j) = gI σ 42 5 then 2 * tln (fTr E j) + 2 else 0
/-- .. those before the m-th -/
def phi2 (E : List En) (X : Nat → Nat) (σ : st_S) : Nat → Nat
  | 0 => 0
  | m + 1 => phi2 E X σ m + trm E X σ m
theorem phi2_eq {E : List En} {X : Nat → Nat} {σ σ' : st_S} : ∀ m, (∀ j, j < m → trm E X σ' j = trm E X σ j) → phi2 E X σ' m = phi2 E X σ m := by
  intro m
  induction m with
  | zero => intro _; rfl
  | succ m ih =>
    intro h
    show phi2 E X σ' m + trm E X σ' m = phi2 E X σ m + trm E X σ m
    rw [ih (fun j hj => h j (by omega)), h m (by omega)]
theorem trm_eq {E : List En} {X : Nat → Nat} {σ σ' : st_S} (h : gE σ' 44 = gE σ 44) (h5 : gI σ' 42 5 = gI σ 42 5) (j : Nat) : trm E X σ' j = trm E X σ j := by
  unfold trm
  rw [h, h5]
theorem phi2_one {E : List En} {X : Nat → Nat} {σ σ' : st_S} {j : Nat} (hj : trm E X σ' j = 0) : ∀ m, j < m → (∀ j', j < j' → j' < m → trm E X σ' j' = trm E X σ j') → phi2 E X σ' m + trm E X σ j + phi2 E X σ j = phi2 E X σ m + phi2 E X σ' j := by
  intro m
  induction m with
  | zero => intro h; omega
  | succ m ih =>
    intro h h2
    have e1 : phi2 E X σ' (m + 1) = phi2 E X σ' m + trm E X σ' m := rfl
    have e2 : phi2 E X σ (m + 1) = phi2 E X σ m + trm E X σ m := rfl
    rw [e1, e2]
    by_cases c : j = m
    · subst c
      rw [hj]
      omega
    · have := ih (by omega) (fun j' a b => h2 j' a (by omega))
      have := h2 m (by omega) (by omega)
      omega
/-- met formulas have their values -/
def Mtt (l : List Int32) (w : List (Nat × Nat × Nat)) (E : List En) (X fs : Nat → Nat) (vs : Nat → Int32) (σ : st_S) (M : Nat → Nat → Int32) : Prop := ∀ j, j < E.length → (E.getD j eN).2.1 = 2 → gE σ 44 (X j) = gI σ 42 5 → ∃ v, fvn l w E vs j = .inr v ∧ Va M (fs j + tln (fTr E j) - 1) v
/-- a range of nodes without formulas that are met, or stand before the m-th -/
def DJ (E : List En) (X fs : Nat → Nat) (σ : st_S) (m a b : Nat) : Prop := ∀ j, j < E.length → (E.getD j eN).2.1 = 2 → (gE σ 44 (X j) = gI σ 42 5 ∨ j < m) → fs j + tln (fTr E j) < a ∨ b ≤ fs j
theorem MF.nx {σ σ' : st_S} {t n : Nat} {M M' : Nat → Nat → Int32} {l : List Int32} {w : List (Nat × Nat × Nat)} {E : List En} {X fs : Nat → Nat} {i : Nat} {v : Int64 × Int64} (ht : t = 4 ∨ t = 20) (h : MF σ t n M l w E X fs) (q : Nx t n σ M i v σ' M') (h0 : ¬ M i 0 = 0) : MF σ' t n M' l w E X fs := by
  have s := q.sta h0
  obtain ⟨h1, h2, h3, h4, h5, h6⟩ := h
  obtain ⟨q1, q2, q3, q4, q5, q6, q7⟩ := q
  refine ⟨q1, by rw [q6.2.1]; exact h2, by rw [q6.2.1]; exact h3, by rw [q6.2.1]; exact h4, by rw [q6.2.1]; exact h5, fun j hj hs => ?_⟩
  obtain ⟨a1, a2, a3, a4, a5, a6⟩ := h6 j hj hs
  refine ⟨?_, a2, ((s _).1 0 (by decide)).trans a3, ((s _).1 2 (by decide)).trans a4, ((s _).1 4 (by decide)).trans a5, s.cr a6⟩
  rw [(q6.1.2.2.2.1 (t + 14) (by simp only [List.mem_cons, List.not_mem_nil, or_false]; omega)).2]
  exact a1
theorem Mtt.nx {σ σ' : st_S} {t n : Nat} {M M' : Nat → Nat → Int32} {l : List Int32} {w : List (Nat × Nat × Nat)} {E : List En} {X fs : Nat → Nat} {vs : Nat → Int32} {i m a b : Nat} {v : Int64 × Int64} (h : Mtt l w E X fs vs σ M) (q : Nx t n σ M i v σ' M') (d : DJ E X fs σ m a b) (hi : a ≤ i) (hi2 : i < b) (h5 : gI σ' 42 5 = gI σ 42 5) : Mtt l w E X fs vs σ' M' := by
  intro j hj hs hm
  rw [q.2.2.2.2.2.2 44 (Or.inr (Or.inl rfl)), h5] at hm
  obtain ⟨u, u1, u2⟩ := h j hj hs hm
  refine ⟨u, u1, ?_⟩
  have pj := tln_pos (fTr E j)
  have := d j hj hs (Or.inl hm)
  unfold Va
  rw [q.2.1 _ (by omega)]
  exact u2
