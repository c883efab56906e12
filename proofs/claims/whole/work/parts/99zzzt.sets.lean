/-! the reference's items: a set of a branch -/
section ST
variable {N g x n k e f : Nat} {σ σ0 σ' : st_S} {D : Nat → Nat → Int32} {w : List (Nat × Nat × Nat)} {l : List Int32} {X : Tx} {E : List En} {fa : Nat → Nat} {R0 : List (Nat × Tr)} {T : Tr} {b : Tr × List Tr} {B : List (Tr × List Tr)}
/-- a number is put behind a list of sets -/
theorem RM.pu (hg : g = 79 ∨ g = 115) (hx : x = 67 ∨ x = 69) (hq : gC σ0 + 770000 < vz_M0) (h : RM g x l w E σ0 σ n D) {o m : Nat} (ho : o = g + 30 ∨ o = g + 32 ∨ o = g + 34) (hm : gI σ o 1 = nI m) (hm2 : m ≤ 40000) (v : Int32) : ∃ σ', N_133 N o v σ = some σ' ∧ RM g x l w E σ0 σ' n D ∧ Fr 0 [(o, 1)] [] [] [o + 1] [] σ σ' ∧ gI σ' o 1 = nI (m + 1) ∧ gE σ' (o + 1) m = v ∧ ∀ i, i < m → gE σ' (o + 1) i = gE σ (o + 1) i := by
  have hs : Skx σ o := by
    rcases ho with rfl | rfl | rfl
    · exact h.2.2.2.1
    · exact h.2.2.2.2.1
    · exact h.2.2.2.2.2
  obtain ⟨L, hs⟩ := hs
  have ll : L.length = m := by
    have h1 := hs.1.1
    have h2 := hs.1.2.1
    have h3 := hs.2
    rw [hm] at h1
    exact ((nI_eq (by omega) (by omega)).mp h1).symm
  have nf := sk_nf hs
  rw [ll] at nf
  have nf' : Nfw σ o m (gE σ (o + 1)) := nf_cg nf (fun i hi => nf.2.2.2.2 i hi)
  have gr : o + 1 ∈ gra := by
    rcases ho with rfl | rfl | rfl <;> rcases hg with rfl | rfl <;> decide
  obtain ⟨σ', a1, a2, a3⟩ := nf_add (N := N) (v := v) gr nf' (by omega) (by have := h.1.1.gc hq; omega)
  refine ⟨σ', a1, ?_, a3, a2.1, ?_, fun i hi => ?_⟩
  · have hM := h
    obtain ⟨h1, h2, h3, h4, h5, h6⟩ := h
    refine ⟨h1.fr hg hx a3 (fun q z => ?_) (fun a z => ?_) (by simp) (fun a z => ?_), h2.fr a3 (fun a z1 z2 => ?_) ?_, h3.fr a3 ?_ ?_, ?_, ?_, ?_⟩
    · simp only [List.mem_cons, List.not_mem_nil, or_false] at z
      subst z
      refine ⟨?_, by dsimp only; omega, by dsimp only; omega, by dsimp only; omega⟩
      rcases ho with rfl | rfl | rfl <;> simp [RIf]
    · simp only [List.mem_cons, List.not_mem_nil, or_false] at z
      subst z
      refine ⟨?_, by omega, by omega, by omega⟩
      simp only [RAf, List.mem_cons, List.not_mem_nil, or_false]
      omega
    · simp only [List.mem_cons, List.not_mem_nil, or_false] at z
      subst z
      exact a2.2.2.2.1
    · simp only [List.mem_cons, List.not_mem_nil, or_false]; omega
    · simp only [List.mem_cons, List.not_mem_nil, or_false]; omega
    · simp only [List.mem_cons, List.not_mem_nil, or_false, Prod.mk.injEq]; omega
    · simp only [List.mem_cons, List.not_mem_nil, or_false]; omega
    · by_cases c : o = g + 30
      · rw [← c]; exact nf_skx a2
      · exact h4.fr a3 (by simp only [List.mem_cons, List.not_mem_nil, or_false, Prod.mk.injEq]; omega) (by simp only [List.mem_cons, List.not_mem_nil, or_false]; omega)
    · by_cases c : o = g + 32
      · rw [← c]; exact nf_skx a2
      · exact h5.fr a3 (by simp only [List.mem_cons, List.not_mem_nil, or_false, Prod.mk.injEq]; omega) (by simp only [List.mem_cons, List.not_mem_nil, or_false]; omega)
    · by_cases c : o = g + 34
      · rw [← c]; exact nf_skx a2
      · exact h6.fr a3 (by simp only [List.mem_cons, List.not_mem_nil, or_false, Prod.mk.injEq]; omega) (by simp only [List.mem_cons, List.not_mem_nil, or_false]; omega)
  · rw [a2.2.2.2.2 m (by omega)]
    exact if_pos rfl
  · rw [a2.2.2.2.2 i (by omega)]
    exact if_neg (by omega)
/-- three numbers are put behind the lists of sets -/
theorem RM.pu3 (hg : g = 79 ∨ g = 115) (hx : x = 67 ∨ x = 69) (hq : gC σ0 + 770000 < vz_M0) (h : RM g x l w E σ0 σ n D) {m : Nat} (h1 : gI σ (g + 30) 1 = nI m) (h2 : gI σ (g + 32) 1 = nI m) (h3 : gI σ (g + 34) 1 = nI m) (hm2 : m ≤ 40000) (v1 v2 v3 : Int32) : ∃ s1 s2 s3, N_133 N (g + 30) v1 σ = some s1 ∧ N_133 N (g + 32) v2 s1 = some s2 ∧ N_133 N (g + 34) v3 s2 = some s3 ∧ W3 s1 w ∧ RM g x l w E σ0 s3 n D ∧ Fr 0 [(g + 30, 1), (g + 32, 1), (g + 34, 1)] [] [] [g + 31, g + 33, g + 35] [] σ s3 ∧ (gI s3 (g + 30) 1 = nI (m + 1) ∧ gI s3 (g + 32) 1 = nI (m + 1) ∧ gI s3 (g + 34) 1 = nI (m + 1)) ∧ (gE s3 (g + 31) m = v1 ∧ gE s3 (g + 33) m = v2 ∧ gE s3 (g + 35) m = v3) ∧ ∀ a, a = g + 31 ∨ a = g + 33 ∨ a = g + 35 → ∀ i, i < m → gE s3 a i = gE σ a i := by
  obtain ⟨s1, a1, a2, a3, a4, a5, a6⟩ := h.pu (N := N) hg hx hq (Or.inl rfl) h1 hm2 v1
  obtain ⟨s2, b1, b2, b3, b4, b5, b6⟩ := a2.pu (N := N) hg hx hq (o := g + 32) (Or.inr (Or.inl rfl)) ((a3.1 _ _ (by simp)).trans h2) hm2 v2
  obtain ⟨s3, c1, c2, c3, c4, c5, c6⟩ := b2.pu (N := N) hg hx hq (o := g + 34) (Or.inr (Or.inr rfl)) ((b3.1 _ _ (by simp)).trans ((a3.1 _ _ (by simp)).trans h3)) hm2 v3
  have fr : Fr 0 [(g + 30, 1), (g + 32, 1), (g + 34, 1)] [] [] [g + 31, g + 33, g + 35] [] σ s3 := Fr.t0 (a3.mo (by simp) (by simp) (by simp) (by simp) (by simp)) (Fr.t0 (b3.mo (by simp) (by simp) (by simp) (by simp) (by simp)) (c3.mo (by simp) (by simp) (by simp) (by simp) (by simp)))
  have kb : ∀ a, a ≠ g + 33 → gE s2 a = gE s1 a := fun a z => (b3.2.2.2.1 a (by simp only [List.mem_cons, List.not_mem_nil, or_false]; omega)).2
  have kc : ∀ a, a ≠ g + 35 → gE s3 a = gE s2 a := fun a z => (c3.2.2.2.1 a (by simp only [List.mem_cons, List.not_mem_nil, or_false]; omega)).2
  have ka : ∀ a, a ≠ g + 31 → gE s1 a = gE σ a := fun a z => (a3.2.2.2.1 a (by simp only [List.mem_cons, List.not_mem_nil, or_false]; omega)).2
  refine ⟨s1, s2, s3, a1, b1, c1, a2.1.2.1, c2, fr, ⟨(c3.1 _ _ (by simp)).trans ((b3.1 _ _ (by simp)).trans a4), (c3.1 _ _ (by simp)).trans b4, c4⟩, ⟨by rw [kc _ (by omega), kb _ (by omega)]; exact a5, by rw [kc _ (by omega)]; exact b5, c5⟩, fun a ha i hi => ?_⟩
  rcases ha with rfl | rfl | rfl
  · rw [kc _ (by omega), kb _ (by omega)]; exact a6 i hi
  · rw [kc _ (by omega), b6 i hi, ka _ (by omega)]
  · rw [c6 i hi, kb _ (by omega), ka _ (by omega)]
/-- the names set so far -/
theorem sts_b : ∀ {R0 : List (Nat × Tr)} {c : Tr} {S : List Tr} {B : List (Tr × List Tr)}, Ch w 31 k R0 → bsr R0 = (c, S) :: B → (∃ T R1, R0 = (6, T) :: R1 ∨ R0 = (7, T) :: R1) → sts l w E R0 = S.map fun T => (fnd l w E (bw T - 3)).getD 0 := by
  intro R0
  induction R0 with
  | nil => intro c S B _ h _; cases h
  | cons y R0 ih =>
    obtain ⟨r, T⟩ := y
    intro c S B hC hb hr
    obtain ⟨T', R1, hr⟩ := hr
    rcases hr with hr | hr
    · injection hr with hr _
      injection hr with hr _
      subst hr
      have hb : (T, []) :: bsr R0 = (c, S) :: B := hb
      injection hb with hb _
      injection hb with _ hb
      subst hb
      rfl
    · injection hr with hr _
      injection hr with hr _
      subst hr
      have o := (Ch_op hC).2.2.2.2.2.2.2.1 rfl
      have hb : (match bsr R0 with
        | [] => []
        | (c, S) :: B => (c, T :: S) :: B) = (c, S) :: B := hb
      cases h0 : bsr R0 with
      | nil => rw [h0] at hb; cases hb
      | cons y B' =>
        obtain ⟨c', S'⟩ := y
        rw [h0] at hb
        injection hb with hb _
        injection hb with _ hb
        subst hb
        have := ih hC.1 h0 o
        show (fnd l w E (bw T - 3)).getD 0 :: sts l w E R0 = _
        rw [this]
        rfl
theorem st_mem {tb : Nat → Nat → Int32} {P : Nat → Tr → Nat → Prop} {s0 j : Nat} (hS : NS σ g n l w E fa D) (hj : j < E.length) (s3 : (E.getD j eN).2.1 = 3) (h12 : cnt E 3 ≤ 12) : ∀ {S : List Tr}, SetsR w tb P (VNm l w E) g s0 S → ((∃ i, i < S.length ∧ tb (g + 31) (s0 + i) = nI (rnm E j)) ↔ (S.map fun T => (fnd l w E (bw T - 3)).getD 0).contains j = true) := by
  intro S
  induction S with
  | nil =>
    intro _
    exact ⟨fun ⟨i, hi, _⟩ => absurd hi (Nat.not_lt_zero i), fun z => by cases z⟩
  | cons T S ih =>
    intro h
    obtain ⟨h1, a, kd, ⟨j', h2, h3, h4, -⟩, -⟩ := h
    have i := ih h1
    have jl := fnd_lt h2
    have bj := (hS.2.1 j hj s3).1
    have bj' := (hS.2.1 j' jl h3).1
    have eq : tb (g + 31) (s0 + S.length) = nI (rnm E j) ↔ j = j' := by
      rw [h4]
      constructor
      · intro z
        have z := (nI_eq (by omega) (by omega)).mp z
        rcases Nat.lt_trichotomy j j' with q | q | q
        · have := hS.2.2.2.2.2.1 j j' q jl s3 h3; omega
        · exact q
        · have := hS.2.2.2.2.2.1 j' j q hj h3 s3; omega
      · intro z; rw [z]
    rw [List.map_cons, List.contains_cons, h2]
    show _ ↔ (j == j' || _) = true
    rw [Bool.or_eq_true, beq_iff_eq]
    constructor
    · rintro ⟨q, hq, hz⟩
      rw [List.length_cons] at hq
      by_cases c : q = S.length
      · subst c
        exact Or.inl (eq.mp hz)
      · exact Or.inr (i.mp ⟨q, by omega, hz⟩)
    · rintro (z | z)
      · exact ⟨S.length, by rw [List.length_cons]; omega, eq.mpr z⟩
      · obtain ⟨q, hq, hz⟩ := i.mpr z
        exact ⟨q, by rw [List.length_cons]; omega, hz⟩
/-- is the var set already -/
theorem L206n (hM : RM g x l w E σ0 σ n D) {l1 l3 : Int32} {v tot : Nat} (ht : gI σ (g + 30) 1 = nI tot) (ht2 : tot ≤ 40000) : ∀ (m s0 f : Nat), s0 + m ≤ tot → (∀ q, q < m → ¬ gE σ (g + 31) (s0 + q) = nI v) → L_206 N g x (f + m) l1 l3 (nI v) (nI s0) σ = L_206 N g x f l1 l3 (nI v) (nI (s0 + m)) σ := by
  obtain ⟨L, hs⟩ := hM.2.2.2.1
  have ll : L.length = tot := by
    have h1 := hs.1.1
    have h2 := hs.1.2.1
    have h3 := hs.2
    rw [ht] at h1
    exact ((nI_eq (by omega) (by omega)).mp h1).symm
  intro m
  induction m with
  | zero => intro s0 f _ _; rfl
  | succ m ih =>
    intro s0 f hm hq
    have q0 : ¬ gE σ (g + 31) s0 = nI v := hq 0 (Nat.succ_pos _)
    have at0 : N_139 N (g + 30) (nI s0) σ = some (gE σ (g + 31) s0, σ) := by
      have := nf_at (N := N) (sk_nf hs) (k := s0) (by omega)
      rw [this]
      congr 2
      exact ((sk_nf hs).2.2.2.2 s0 (by omega)).symm
    rw [← Nat.add_assoc]
    conv => lhs; unfold L_206
    rw [ht, if_neg (fun z => by have := (nI_lei (by omega) (by omega)).mp z; omega), at0, ob_some]
    dsimp only
    rw [if_neg q0, nI_1, ih (s0 + 1) f (by omega) (fun q hq' => by have := hq (q + 1) (by omega); rw [show s0 + (q + 1) = s0 + 1 + q by omega] at this; exact this), show s0 + 1 + m = s0 + (m + 1) by omega]
theorem L206y (hM : RM g x l w E σ0 σ n D) {j0 z : Nat} {v tot : Nat} (hj : j0 + 1 < w.length) (ht : gI σ (g + 30) 1 = nI tot) (ht2 : tot ≤ 40000) : ∀ (m s0 f : Nat), s0 + m ≤ tot → (∃ q, q < m ∧ gE σ (g + 31) (s0 + q) = nI v) → m ≤ f → L_206 N g x (f + 1) (nI j0) (nI z) (nI v) (nI s0) σ = (F_165 N 4 (nI (kP w (j0 + 1))) σ).bind fun p => some (nI z, p) := by
  obtain ⟨L, hs⟩ := hM.2.2.2.1
  have ll : L.length = tot := by
    have h1 := hs.1.1
    have h2 := hs.1.2.1
    have h3 := hs.2
    rw [ht] at h1
    exact ((nI_eq (by omega) (by omega)).mp h1).symm
  intro m
  induction m with
  | zero => intro s0 f _ h _; obtain ⟨q, hq, _⟩ := h; omega
  | succ m ih =>
    intro s0 f hm hq hf
    have at0 : N_139 N (g + 30) (nI s0) σ = some (gE σ (g + 31) s0, σ) := by
      have := nf_at (N := N) (sk_nf hs) (k := s0) (by omega)
      rw [this]
      congr 2
      exact ((sk_nf hs).2.2.2.2 s0 (by omega)).symm
    conv => lhs; unfold L_206
    rw [ht, if_neg (fun z => by have := (nI_lei (by omega) (by omega)).mp z; omega), at0, ob_some]
    dsimp only
    by_cases c : gE σ (g + 31) s0 = nI v
    · rw [if_pos c, nI_1, F159 hM.1.2.1 hj, ob_some]
    · rw [if_neg c, nI_1]
      obtain ⟨f', rfl⟩ : ∃ f', f = f' + 1 := ⟨f - 1, by omega⟩
      refine ih (s0 + 1) f' (by omega) ?_ (by omega)
      obtain ⟨q, h1, h2⟩ := hq
      have q1 : q ≠ 0 := fun y => by rw [y] at h2; exact c h2
      exact ⟨q - 1, by omega, by rw [show s0 + 1 + (q - 1) = s0 + q by omega]; exact h2⟩
end ST
