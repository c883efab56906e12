/-! the reference: a node is looked at -/
section LA
variable {N g x n : Nat} {σ σ0 σ' : st_S} {D : Nat → Nat → Int32} {w : List (Nat × Nat × Nat)} {l : List Int32} {E : List En} {R : List (Nat × Nat)} {Vs : List Int32}
theorem LQ.mo (hg : g = 79 ∨ g = 115) (hx : x = 67 ∨ x = 69) {R' : List (Nat × Nat)} {Vs' : List Int32} {D' : Nat → Nat → Int32} (h : LQ g x l w E σ0 σ R Vs n D) (fr : FY g σ σ') (h1 : Sk σ' 161 (g2 R')) (h2 : Sk σ' 159 Vs') (h3 : DS σ' g n D') : LQ g x l w E σ0 σ' R' Vs' n D' := by
  obtain ⟨q1, q2, q3, q4, q5, q6, q7⟩ := h
  refine ⟨Fr.t0 q1 fr, q2.fr fr ?_ ?_, ?_, q4.fr fr ?_ ?_ ?_ ?_, h1, h2, h3⟩
  · intro a z1 z2; simp only [List.mem_cons, List.not_mem_nil, or_false, Prod.mk.injEq]; omega
  · intro a z1 z2; simp only [List.mem_cons, List.not_mem_nil, or_false]; omega
  · obtain ⟨a1, a2, a3, a4, a5⟩ := q3
    obtain ⟨e1, e2⟩ := fr.2.2.2.1 (x + 1) (by simp only [List.mem_cons, List.not_mem_nil, or_false]; omega)
    exact ⟨(fr.1 x 1 (by simp only [List.mem_cons, List.not_mem_nil, or_false, Prod.mk.injEq]; omega)).trans a1, by rw [e1]; exact a2, by rw [e1]; exact a3, a4, by rw [e2]; exact a5⟩
  · intro a z1 z2; simp only [List.mem_cons, List.not_mem_nil, or_false, Prod.mk.injEq]; omega
  · intro a z1 z2; simp only [List.mem_cons, List.not_mem_nil, or_false]; omega
  · simp only [List.mem_cons, List.not_mem_nil, or_false]; omega
  · simp only [List.mem_cons, List.not_mem_nil, or_false]; omega
theorem DS.y (hg : g = 79 ∨ g = 115) {I : List (Nat × Nat)} {A : List Nat} (h : DS σ g n D) (fr : Fr 0 I [] [] A [] σ σ') (hI : ∀ a k, (a, k) ∈ I → a = 66 ∨ 150 < a) (hA : ∀ a ∈ A, 150 < a) : DS σ' g n D := h.fr fr (fun a h1 h2 h3 => by
  have := hI a 1 h3
  omega) (fun a h1 h2 h3 => by
  have := hA a h3
  omega)
/-- the parts are counted -/
theorem L181 (hD : DS σ g n D) (hn : n ≤ 20000) : ∀ (cs : List Nat) (v : Int32) (i f : Nat), Pk D v cs → (∀ c ∈ cs, c < n) → i + cs.length < 40000 → cs.length < f → L_181 N g f (nI i) v σ = some (nI (i + cs.length), σ) := by
  intro cs
  induction cs with
  | nil =>
    intro v i f hv _ _ hf
    obtain ⟨f, rfl⟩ : ∃ f', f = f' + 1 := ⟨f - 1, by omega⟩
    have hv : v = -1 := hv
    subst hv
    unfold L_181
    rw [if_pos (by decide)]
    rfl
  | cons c cs ih =>
    intro v i f hv hc hi hf
    obtain ⟨f, rfl⟩ : ∃ f', f = f' + 1 := ⟨f - 1, by omega⟩
    rw [List.length_cons] at hi hf
    have cn := hc c (List.mem_cons_self ..)
    have at5 : N_139 N (g + 11) (nI c) σ = some (D c 5, σ) := nf_at (hD 5 (by decide)) cn
    unfold L_181
    rw [hv.1, if_neg (fun z => by have := (nI_lti (b := 0) (by omega) (by decide)).mp z; omega), at5, ob_some]
    dsimp only
    rw [nI_1, ih (D c 5) (i + 1) f hv.2 (fun z hz => hc z (List.mem_cons_of_mem _ hz)) (by omega) (by omega), List.length_cons, show i + 1 + cs.length = i + (cs.length + 1) by omega]
/-- what looking at a node comes to: is it good, is it a truth -/
def lkr (s m : Nat) (ks : List Nat) : Bool × Nat :=
  if s = 2 then (true, 0) else if s = 12 ∨ s = 13 then (true, 1) else if s = 18 ∨ s = 23 then (decide (ks.sum ≠ 1), 1) else if s = 29 ∨ s = 30 ∨ s = 31 then (decide (ks.sum = m), 1)
  else if s = 32 then (decide (ks.getD 0 0 = 1 ∧ ks.getD 1 0 = ks.getD 2 0), ks.getD 2 0) else (decide (ks.sum = 0), if 19 ≤ s ∧ s ≤ 22 then 1 else 0)
/-- the end of looking at a node -/
theorem J180 (G : LGv N g x l w E σ0) {V : List Int32} {pl : Nat} {tr : Nat} {gd : Bool} (h : LQ g x l w E σ0 σ R (Vs ++ V) n D) (hf : gI σ 66 16 = 0) (hV : (Vs ++ V).length ≤ 40000) : ∃ σ', J_180_374 N g x (nI pl) (nI Vs.length) (if gd = true then 1 else 0) (nI tr) σ = some σ' ∧ LQ g x l w E σ0 σ' R (Vs ++ [nI tr]) n D ∧ (if gd = true then gI σ' 66 16 = 0 else gI σ' 66 16 = 3 ∧ gI σ' 66 17 = nI pl) := by
  have G' := G
  obtain ⟨hg, hx, hN, h40, hl, hq, hP, hW, hu⟩ := G
  rw [List.length_append] at hV
  -- the truths, cut and one more
  have cut : ∀ {s : st_S}, LQ g x l w E σ0 s R (Vs ++ V) n D → ∃ s', J_180_386 N g x (nI Vs.length) (nI tr) s = some s' ∧ LQ g x l w E σ0 s' R (Vs ++ [nI tr]) n D ∧ (∀ k, gI s' 66 k = gI s 66 k) := by
    intro s hs
    have hs' := hs
    obtain ⟨q1, q2, q3, q4, q5, q6, q7⟩ := hs
    have k1 : Sk (st_i s 159 1 (nI Vs.length)) 159 Vs := by
      obtain ⟨⟨a1, a2, a3, a4⟩, a5⟩ := q6
      rw [List.length_append] at a2
      refine ⟨⟨by rw [gI_i, if_pos ⟨rfl, rfl⟩], by show Vs.length ≤ gN s (159 + 1); omega, a3, fun j hj => ?_⟩, a5⟩
      have := a4 j (by rw [List.length_append]; omega)
      rw [List.getElem_append_left hj] at this
      exact this
    have f1 : Fr 0 [(159, 1)] [] [] [160] [] s (st_i s 159 1 (nI Vs.length)) := Fr.i s _ (by simp)
    have fy : ∀ {u u' : st_S}, Fr 0 [(159, 1)] [] [] [160] [] u u' → FY g u u' := fun h => h.mo (by simp) (by simp) (by simp) (by simp) (by simp)
    have n8 : gN (st_i s 159 1 (nI Vs.length)) (g + 8) ≤ 100000 := Nat.le_trans (q7 3 (by decide)).2.2.2.1 (show 40000 ≤ 100000 by decide)
    obtain ⟨s2, a1, a2, a3⟩ := sk_push (N := N) (v := nI tr) (o := 159) (by decide) k1 (by omega) (by have := lq_gc hq (Fr.t0 q1 (fy f1)) (q5.fr f1 (by simp) (by simp)) k1 n8; omega)
    have fa := Fr.t0 f1 a3
    refine ⟨s2, ?_, hs'.mo hg hx (fy fa) (q5.fr fa (by simp) (by simp)) a2 (q7.y hg fa (fun a k z => by simp only [List.mem_cons, List.not_mem_nil, or_false, Prod.mk.injEq] at z; omega) (fun a z => by simp only [List.mem_cons, List.not_mem_nil, or_false] at z; omega)), fun k => fa.1 66 k (by simp)⟩
    unfold J_180_386
    rw [a1, ob_some]
  unfold J_180_374
  cases gd with
  | true =>
    obtain ⟨s', c1, c2, c3⟩ := cut h
    refine ⟨s', ?_, c2, ?_⟩
    · rw [if_pos rfl, if_neg (by decide)]
      exact c1
    · rw [if_pos rfl]
      exact (c3 16).trans hf
  | false =>
    have f1 : Fr 0 [(66, 16), (66, 17)] [] [] [] [] σ (st_i (st_i σ 66 16 3) 66 17 (nI pl)) := Fr.t0 (Fr.i σ _ (by simp)) (Fr.i _ _ (by simp))
    have h1 : LQ g x l w E σ0 (st_i (st_i σ 66 16 3) 66 17 (nI pl)) R (Vs ++ V) n D := h.mo hg hx (f1.mo (by simp) (by simp) (by simp) (by simp) (by simp)) (h.2.2.2.2.1.fr f1 (by simp) (by simp)) (h.2.2.2.2.2.1.fr f1 (by simp) (by simp)) (h.2.2.2.2.2.2.y hg f1 (fun a k z => by simp only [List.mem_cons, List.not_mem_nil, or_false, Prod.mk.injEq] at z; omega) (fun a z => by cases z))
    obtain ⟨s', c1, c2, c3⟩ := cut h1
    refine ⟨s', ?_, c2, ?_⟩
    · rw [if_neg Bool.false_ne_true, if_pos rfl]
      unfold F_165
      rw [ob_some]
      exact c1
    · rw [if_neg Bool.false_ne_true]
      refine ⟨(c3 16).trans ?_, (c3 17).trans ?_⟩
      · rw [gI_i, if_neg (by simp), gI_i, if_pos ⟨rfl, rfl⟩]
      · rw [gI_i, if_pos ⟨rfl, rfl⟩]
/-- the truths are summed -/
theorem L180s (hs : Sk σ 159 Vs) {a co s pl m b : Int32} : ∀ (V : List Nat) (i S f : Nat), i + V.length = Vs.length → (∀ j, j < V.length → Vs.getD (i + j) 0 = nI (V.getD j 0)) → Vs.length < 40000 → L_180 N g x (f + V.length) a co s pl m b (nI S) (nI i) σ = L_180 N g x f a co s pl m b (nI (S + V.sum)) (nI Vs.length) σ := by
  intro V
  induction V with
  | nil =>
    intro i S f hi _ _
    have hi : i + 0 = Vs.length := hi
    rw [show i = Vs.length by omega]
    rfl
  | cons v V ih =>
    intro i S f hi hv hl
    rw [List.length_cons] at hi
    have at0 : N_139 N 159 (nI i) σ = some (nI v, σ) := by
      rw [nf_at (sk_nf hs) (by omega)]
      have := hv 0 (by rw [List.length_cons]; omega)
      rw [Nat.add_zero] at this
      rw [this]
      rfl
    rw [List.length_cons, ← Nat.add_assoc]
    conv => lhs; unfold L_180
    rw [hs.1.1, if_neg (fun z => by have := (nI_lei (by omega) (by omega)).mp z; omega), at0, ob_some]
    dsimp only
    have e : nI S + nI v = nI (S + v) := nI_add S v
    rw [e, nI_1, ih (i + 1) (S + v) f (by omega) (fun j hj => by
      have := hv (j + 1) (by rw [List.length_cons]; omega)
      rw [show i + 1 + j = i + (j + 1) by omega, this]
      rfl) hl, List.sum_cons, Nat.add_assoc]
/-- looking at a node that is no name -/
theorem F180 (G : LGv N g x l w E σ0) {a s pl : Nat} {co : Int32} {cs ks : List Nat} (h : LQ g x l w E σ0 σ R (Vs ++ ks.map nI) n D) (hf : gI σ 66 16 = 0) (hn : n ≤ 20000) (ha : a < n) (hs : D a 0 = nI s) (hs2 : s < 46) (hs1 : s ≠ 1) (hp : D a 1 = nI pl) (hk : Pk D (D a 4) cs) (hc : ∀ c ∈ cs, c < n) (hl : ks.length = cs.length) (hl2 : Vs.length + ks.length < 30000) (h1 : ∀ k ∈ ks, k ≤ 1) (h32 : s = 32 → ks.length = 3) : ∃ σ', F_180 N g x (nI a) co σ = some σ' ∧ LQ g x l w E σ0 σ' R (Vs ++ [nI (lkr s cs.length ks).2]) n D ∧ (if (lkr s cs.length ks).1 = true then gI σ' 66 16 = 0 else gI σ' 66 16 = 3 ∧ gI σ' 66 17 = nI pl) := by
  have G' := G
  obtain ⟨hg, hx, hN, h40, hlw, hq, hP, hW, hu⟩ := G
  have hD := h.2.2.2.2.2.2
  have h6 := h.2.2.2.2.2.1
  have ll : (Vs ++ ks.map nI).length = Vs.length + ks.length := by rw [List.length_append, List.length_map]
  have a0 : N_139 N (g + 1) (nI a) σ = some (nI s, σ) := by rw [← hs]; exact nf_at (hD 0 (by decide)) ha
  have a1 : N_139 N (g + 3) (nI a) σ = some (nI pl, σ) := by rw [← hp]; exact nf_at (hD 1 (by decide)) ha
  have a4 : N_139 N (g + 9) (nI a) σ = some (D a 4, σ) := nf_at (hD 4 (by decide)) ha
  have f1 : F_181 N g (nI a) σ = some (nI cs.length, σ) := by
    unfold F_181
    rw [a4, ob_some]
    have := L181 (N := N) hD hn cs (D a 4) 0 N hk hc (by omega) (by omega)
    rw [Nat.zero_add] at this
    exact this
  have gs : gI σ 159 1 = nI (Vs.length + ks.length) := by rw [← ll]; exact h6.1.1
  have eb : nI (Vs.length + ks.length) - nI cs.length = nI Vs.length := by
    rw [nI_sub (by omega), show Vs.length + ks.length - cs.length = Vs.length by omega]
  have atk : ∀ j, j < ks.length → (Vs ++ ks.map nI).getD (Vs.length + j) 0 = nI (ks.getD j 0) := fun j hj => by
    rw [List.getD_eq_getElem?_getD, List.getElem?_append_right (by omega), Nat.add_sub_cancel_left, List.getElem?_map, List.getD_eq_getElem?_getD, List.getElem?_eq_getElem hj]
    rfl
  have sm : ks.sum ≤ ks.length := by
    have : ∀ q : List Nat, (∀ k ∈ q, k ≤ 1) → q.sum ≤ q.length := by
      intro q
      induction q with
      | nil => intro _; exact Nat.le_refl _
      | cons y q ih =>
        intro hy
        have := ih (fun k hk => hy k (List.mem_cons_of_mem _ hk))
        have := hy y (List.mem_cons_self ..)
        rw [List.sum_cons, List.length_cons]
        omega
    exact this ks h1
  have run := L180s (N := N) (g := g) (x := x) h6 (a := nI a) (co := co) (s := nI s) (pl := nI pl) (m := nI cs.length) (b := nI Vs.length) ks Vs.length 0 (N - ks.length) (by omega) atk (by omega)
  rw [show N - ks.length + ks.length = N by omega, Nat.zero_add, ll] at run
  have F : F_180 N g x (nI a) co σ = L_180 N g x (N - ks.length) (nI a) co (nI s) (nI pl) (nI cs.length) (nI Vs.length) (nI ks.sum) (nI (Vs.length + ks.length)) σ := by
    unfold F_180
    rw [a0, ob_some]
    dsimp only
    rw [a1, ob_some]
    dsimp only
    rw [f1, ob_some]
    dsimp only
    rw [gs, eb]
    exact run
  obtain ⟨f, hfu⟩ : ∃ f, N - ks.length = f + 1 := ⟨N - ks.length - 1, by omega⟩
  rw [F, hfu]
  unfold L_180
  rw [gs, if_pos ((nI_lei (by omega) (by omega)).mpr (Nat.le_refl _))]
  have e : ∀ q, q < 46 → (nI s = nI q ↔ s = q) := fun q hq => nI_eq (by omega) (by omega)
  have fin : ∀ (gd : Bool) (tr : Nat), lkr s cs.length ks = (gd, tr) → ∀ z : Option st_S, z = J_180_374 N g x (nI pl) (nI Vs.length) (if gd = true then 1 else 0) (nI tr) σ → ∃ σ', z = some σ' ∧ LQ g x l w E σ0 σ' R (Vs ++ [nI (lkr s cs.length ks).2]) n D ∧ (if (lkr s cs.length ks).1 = true then gI σ' 66 16 = 0 else gI σ' 66 16 = 3 ∧ gI σ' 66 17 = nI pl) := fun gd tr he z hz => by
    rw [he, hz]
    exact J180 G' h hf (by rw [ll]; omega)
  rw [if_neg (show ¬ nI s = 1 from fun z => hs1 ((e 1 (by decide)).mp z))]
  by_cases c2 : s = 2
  · rw [if_pos (show nI s = 2 from (e 2 (by decide)).mpr c2)]
    exact fin true 0 (by unfold lkr; rw [if_pos c2]) _ rfl
  rw [if_neg (show ¬ nI s = 2 from fun z => c2 ((e 2 (by decide)).mp z))]
  by_cases c12 : s = 12
  · rw [if_pos (show nI s = 12 from (e 12 (by decide)).mpr c12)]
    exact fin true 1 (by unfold lkr; rw [if_neg c2, if_pos (Or.inl c12)]) _ rfl
  rw [if_neg (show ¬ nI s = 12 from fun z => c12 ((e 12 (by decide)).mp z))]
  by_cases c13 : s = 13
  · rw [if_pos (show nI s = 13 from (e 13 (by decide)).mpr c13)]
    exact fin true 1 (by unfold lkr; rw [if_neg c2, if_pos (Or.inr c13)]) _ rfl
  rw [if_neg (show ¬ nI s = 13 from fun z => c13 ((e 13 (by decide)).mp z))]
  have q1 : nI ks.sum = 1 ↔ ks.sum = 1 := nI_eq (b := 1) (by omega) (by decide)
  have q0 : nI ks.sum = 0 ↔ ks.sum = 0 := nI_eq (b := 0) (by omega) (by decide)
  have qm : nI ks.sum = nI cs.length ↔ ks.sum = cs.length := nI_eq (by omega) (by omega)
  have s1 : (if nI ks.sum = 1 then 0 else 1 : Int32) = if decide (ks.sum ≠ 1) = true then 1 else 0 := by
    by_cases z : ks.sum = 1
    · rw [if_pos (q1.mpr z), if_neg (by simpa using z)]
    · rw [if_neg (fun y => z (q1.mp y)), if_pos (by simpa using z)]
  have s2 : (if nI ks.sum = nI cs.length then 1 else 0 : Int32) = if decide (ks.sum = cs.length) = true then 1 else 0 := by
    by_cases z : ks.sum = cs.length
    · rw [if_pos (qm.mpr z), if_pos (by simpa using z)]
    · rw [if_neg (fun y => z (qm.mp y)), if_neg (by simpa using z)]
  have s0 : (if nI ks.sum = 0 then 1 else 0 : Int32) = if decide (ks.sum = 0) = true then 1 else 0 := by
    by_cases z : ks.sum = 0
    · rw [if_pos (q0.mpr z), if_pos (by simpa using z)]
    · rw [if_neg (fun y => z (q0.mp y)), if_neg (by simpa using z)]
  by_cases c18 : s = 18
  · rw [if_pos (show nI s = 18 from (e 18 (by decide)).mpr c18), s1]
    exact fin _ 1 (by unfold lkr; rw [if_neg c2, if_neg (by omega), if_pos (Or.inl c18)]) _ rfl
  rw [if_neg (show ¬ nI s = 18 from fun z => c18 ((e 18 (by decide)).mp z))]
  by_cases c23 : s = 23
  · rw [if_pos (show nI s = 23 from (e 23 (by decide)).mpr c23), s1]
    exact fin _ 1 (by unfold lkr; rw [if_neg c2, if_neg (by omega), if_pos (Or.inr c23)]) _ rfl
  rw [if_neg (show ¬ nI s = 23 from fun z => c23 ((e 23 (by decide)).mp z))]
  by_cases c29 : s = 29
  · rw [if_pos (show nI s = 29 from (e 29 (by decide)).mpr c29), s2]
    exact fin _ 1 (by unfold lkr; rw [if_neg c2, if_neg (by omega), if_neg (by omega), if_pos (by omega)]) _ rfl
  rw [if_neg (show ¬ nI s = 29 from fun z => c29 ((e 29 (by decide)).mp z))]
  by_cases c30 : s = 30
  · rw [if_pos (show nI s = 30 from (e 30 (by decide)).mpr c30), s2]
    exact fin _ 1 (by unfold lkr; rw [if_neg c2, if_neg (by omega), if_neg (by omega), if_pos (by omega)]) _ rfl
  rw [if_neg (show ¬ nI s = 30 from fun z => c30 ((e 30 (by decide)).mp z))]
  by_cases c31 : s = 31
  · rw [if_pos (show nI s = 31 from (e 31 (by decide)).mpr c31), s2]
    exact fin _ 1 (by unfold lkr; rw [if_neg c2, if_neg (by omega), if_neg (by omega), if_pos (by omega)]) _ rfl
  rw [if_neg (show ¬ nI s = 31 from fun z => c31 ((e 31 (by decide)).mp z))]
  by_cases c32 : s = 32
  · have k3 := h32 c32
    have t : ∀ j, j < 3 → N_139 N 159 (nI (Vs.length + j)) σ = some (nI (ks.getD j 0), σ) := fun j hj => by
      rw [← atk j (by omega)]
      exact nf_at (sk_nf h6) (by rw [ll]; omega)
    have t0 : N_139 N 159 (nI Vs.length) σ = some (nI (ks.getD 0 0), σ) := t 0 (by decide)
    have m1 : nI Vs.length + 1 = nI (Vs.length + 1) := nI_1 ..
    have m2 : nI Vs.length + 2 = nI (Vs.length + 2) := nI_add _ 2
    have t3 : N_183 N 159 σ = some (nI (ks.getD 2 0), σ) := by
      unfold N_183
      have em : nI (Vs.length + ks.length) - 1 = nI (Vs.length + 2) := by
        rw [k3]
        exact nI_sub (a := Vs.length + 3) (b := 1) (by omega)
      have g3 := t 2 (by decide)
      unfold N_139 at g3
      rw [gs, em]
      exact g3
    have kb : ∀ j, ks.getD j 0 ≤ 1 := fun j => by
      rw [List.getD_eq_getElem?_getD]
      cases hj : ks[j]? with
      | none => exact Nat.zero_le _
      | some v => exact h1 v (List.mem_of_getElem? hj)
    have b0 := kb 0
    have b1 := kb 1
    have b2 := kb 2
    have p0 : nI (ks.getD 0 0) = 1 ↔ ks.getD 0 0 = 1 := nI_eq (b := 1) (by omega) (by decide)
    have p1 : nI (ks.getD 1 0) = nI (ks.getD 2 0) ↔ ks.getD 1 0 = ks.getD 2 0 := nI_eq (by omega) (by omega)
    have lk : lkr s cs.length ks = (decide (ks.getD 0 0 = 1 ∧ ks.getD 1 0 = ks.getD 2 0), ks.getD 2 0) := by
      unfold lkr
      rw [if_neg c2, if_neg (by omega), if_neg (by omega), if_neg (by omega), if_pos c32]
    rw [if_pos (show nI s = 32 from (e 32 (by decide)).mpr c32), t0, ob_some]
    dsimp only
    have j333 : J_180_333 N g x (nI pl) (nI Vs.length) σ = J_180_374 N g x (nI pl) (nI Vs.length) 0 (nI (ks.getD 2 0)) σ := by
      unfold J_180_333
      rw [t3, ob_some]
    by_cases z0 : ks.getD 0 0 = 1
    · rw [if_pos (p0.mpr z0), m1, t 1 (by decide), ob_some]
      dsimp only
      rw [m2, t 2 (by decide), ob_some]
      dsimp only
      by_cases z1 : ks.getD 1 0 = ks.getD 2 0
      · rw [if_pos (p1.mpr z1), t3, ob_some]
        refine fin true _ (by rw [lk, decide_eq_true ⟨z0, z1⟩]) _ rfl
      · rw [if_neg (fun y => z1 (p1.mp y)), j333]
        refine fin false _ (by rw [lk, decide_eq_false (fun y => z1 y.2)]) _ rfl
    · rw [if_neg (fun y => z0 (p0.mp y)), j333]
      refine fin false _ (by rw [lk, decide_eq_false (fun y => z0 y.1)]) _ rfl
  rw [if_neg (show ¬ nI s = 32 from fun z => c32 ((e 32 (by decide)).mp z))]
  have cmp : F_157 N (nI s) σ = some ((if 18 ≤ s ∧ s ≤ 23 then 1 else 0 : Int32), σ) := by
    have : ∀ m, m < 46 → (if nI m = 23 then 1 else (if nI m = 18 then 1 else (if nI m = 21 then 1 else (if nI m = 19 then 1 else (if nI m = 22 then 1 else (if nI m = 20 then 1 else 0))))) : Int32) = (if 18 ≤ m ∧ m ≤ 23 then 1 else 0 : Int32) := by decide
    unfold F_157
    rw [this _ hs2]
  rw [cmp, ob_some]
  dsimp only
  rw [s0]
  refine fin (decide (ks.sum = 0)) (if 19 ≤ s ∧ s ≤ 22 then 1 else 0) (by unfold lkr; rw [if_neg c2, if_neg (by omega), if_neg (by omega), if_neg (by omega), if_neg c32]) _ ?_
  congr 1
  by_cases z : 18 ≤ s ∧ s ≤ 23
  · rw [if_pos z, if_pos (show 19 ≤ s ∧ s ≤ 22 by omega), if_neg (show ¬ (1 : Int32) = 0 by decide)]; rfl
  · rw [if_neg z, if_neg (show ¬ (19 ≤ s ∧ s ≤ 22) by omega), if_pos rfl]; rfl
/-- the value of a name that was looked up -/
def vix (E : List En) (j : Nat) : Int32 := if (E.getD j eN).2.1 = 3 then nI (100 + (E.getD j eN).2.2.2.2.2.2.2) else nI (E.getD j eN).2.2.2.2.2.2.2
/-- looking at a name -/
theorem F180n (G : LGv N g x l w E σ0) {a k : Nat} {co : Bool} (h : LQ g x l w E σ0 σ R Vs n D) (hf : gI σ 66 16 = 0) (hn : n ≤ 20000) (ha : a < n) (hs : D a 0 = nI 1) (hp : D a 1 = nI (kP w k)) (h3 : D a 3 = nI k) (hk1 : kK w k = 1) (h4 : D a 4 = -1) (hl2 : Vs.length < 30000) : match chn l w E co k with
    | .inl e => ∃ σ', F_180 N g x (nI a) (if co = true then 1 else 0) σ = some σ' ∧ gI σ' 66 16 = nI e.1 ∧ gI σ' 66 17 = nI e.2 ∧ LQ g x l w E σ0 σ' R (Vs ++ [0]) n D
    | .inr kd => ∃ σ' j, F_180 N g x (nI a) (if co = true then 1 else 0) σ = some σ' ∧ gI σ' 66 16 = 0 ∧ LQ g x l w E σ0 σ' R (Vs ++ [nI (kd - 1)]) n (pat D a 3 (vix E j)) ∧ fnd l w E k = some j ∧ (kd = 1 ∨ kd = 2) := by
  have G' := G
  obtain ⟨hg, hx, hN, h40, hlw, hq, hP, hW, hu⟩ := G
  have hD := h.2.2.2.2.2.2
  have h6 := h.2.2.2.2.2.1
  have hR := h.2.2.2.1
  have kl : k < w.length := kK_lt (by omega)
  have a0 : N_139 N (g + 1) (nI a) σ = some (nI 1, σ) := by rw [← hs]; exact nf_at (hD 0 (by decide)) ha
  have a1 : N_139 N (g + 3) (nI a) σ = some (nI (kP w k), σ) := by rw [← hp]; exact nf_at (hD 1 (by decide)) ha
  have a3 : N_139 N (g + 7) (nI a) σ = some (nI k, σ) := by rw [← h3]; exact nf_at (hD 3 (by decide)) ha
  have a4 : N_139 N (g + 9) (nI a) σ = some (D a 4, σ) := nf_at (hD 4 (by decide)) ha
  have f1 : F_181 N g (nI a) σ = some (nI 0, σ) := by
    unfold F_181
    rw [a4, ob_some]
    exact L181 (N := N) hD hn [] (D a 4) 0 N h4 (fun c z => by cases z) (by decide) (by show 0 < N; omega)
  have gs : gI σ 159 1 = nI Vs.length := h6.1.1
  have eb : nI Vs.length - nI 0 = nI Vs.length := nI_sub (Nat.zero_le _)
  obtain ⟨f, hfu⟩ : ∃ f, N = f + 1 := ⟨N - 1, by omega⟩
  have F : F_180 N g x (nI a) (if co = true then 1 else 0) σ = ((F_182 N g x (nI a) (if co = true then 1 else 0) σ).bind fun p_6 => J_180_374 N g x (nI (kP w k)) (nI Vs.length) 1 p_6.1 p_6.2) := by
    unfold F_180
    rw [a0, ob_some]
    dsimp only
    rw [a1, ob_some]
    dsimp only
    rw [f1, ob_some]
    dsimp only
    rw [gs, eb]
    conv => lhs; rw [show L_180 N g x N = L_180 N g x (f + 1) by rw [← hfu]]
    unfold L_180
    rw [gs, if_pos ((nI_lei (by omega) (by omega)).mpr (Nat.le_refl _)), if_pos (show nI 1 = 1 from rfl)]
  have fd := F166 (N := N) (k := k) (by omega) hP h.2.2.1 h.2.1 hR hW hu kl
  have bad : F_182 N g x (nI a) (if co = true then 1 else 0) σ = J_182_36 N g x (nI a) σ → ∃ σ', F_180 N g x (nI a) (if co = true then 1 else 0) σ = some σ' ∧ gI σ' 66 16 = nI 2 ∧ gI σ' 66 17 = nI (kP w k) ∧ LQ g x l w E σ0 σ' R (Vs ++ [0]) n D := by
    intro e
    have fr : Fr 0 [(66, 16), (66, 17)] [] [] [] [] σ (st_i (st_i σ 66 16 2) 66 17 (nI (kP w k))) := Fr.t0 (Fr.i σ _ (by simp)) (Fr.i _ _ (by simp))
    have fa : FY g σ (st_i (st_i σ 66 16 2) 66 17 (nI (kP w k))) := fr.mo (by simp) (by simp) (by simp) (by simp) (by simp)
    -- the truths
    have k0 : LQ g x l w E σ0 (st_i (st_i σ 66 16 2) 66 17 (nI (kP w k))) R Vs n D := h.mo hg hx fa (h.2.2.2.2.1.fr fr (by simp) (by simp)) (h6.fr fr (by simp) (by simp)) (hD.y hg fr (fun a k z => by simp only [List.mem_cons, List.not_mem_nil, or_false, Prod.mk.injEq] at z; omega) (fun a z => by cases z))
    have k1 := k0.2.2.2.2.2.1
    have f0 : Fr 0 [(159, 1)] [] [] [160] [] (st_i (st_i σ 66 16 2) 66 17 (nI (kP w k))) (st_i (st_i (st_i σ 66 16 2) 66 17 (nI (kP w k))) 159 1 (nI Vs.length)) := Fr.i _ _ (by simp)
    have fy : ∀ {u u' : st_S}, Fr 0 [(159, 1)] [] [] [160] [] u u' → FY g u u' := fun h => h.mo (by simp) (by simp) (by simp) (by simp) (by simp)
    have k2 : Sk (st_i (st_i (st_i σ 66 16 2) 66 17 (nI (kP w k))) 159 1 (nI Vs.length)) 159 Vs := ⟨⟨by rw [gI_i, if_pos ⟨rfl, rfl⟩], k1.1.2⟩, k1.2⟩
    have n8 : gN (st_i (st_i (st_i σ 66 16 2) 66 17 (nI (kP w k))) 159 1 (nI Vs.length)) (g + 8) ≤ 100000 := Nat.le_trans (hD 3 (by decide)).2.2.2.1 (show 40000 ≤ 100000 by decide)
    obtain ⟨s2, p1, p2, p3⟩ := sk_push (N := N) (v := 0) (o := 159) (by decide) k2 (by omega) (by have := lq_gc hq (Fr.t0 k0.1 (fy f0)) (k0.2.2.2.2.1.fr f0 (by simp) (by simp)) k2 n8; omega)
    have fz := Fr.t0 f0 p3
    refine ⟨s2, ?_, ?_, ?_, k0.mo hg hx (fy fz) (k0.2.2.2.2.1.fr fz (by simp) (by simp)) p2 (k0.2.2.2.2.2.2.y hg fz (fun a k z => by simp only [List.mem_cons, List.not_mem_nil, or_false, Prod.mk.injEq] at z; omega) (fun a z => by simp only [List.mem_cons, List.not_mem_nil, or_false] at z; omega))⟩
    · rw [F, e]
      unfold J_182_36 F_165
      rw [a1, ob_some]
      dsimp only
      rw [ob_some, ob_some]
      unfold J_180_374 J_180_386
      dsimp only
      rw [if_neg (by decide), p1, ob_some]
    · rw [fz.1 66 16 (by simp), gI_i, if_neg (by simp), gI_i, if_pos ⟨rfl, rfl⟩]; rfl
    · rw [fz.1 66 17 (by simp), gI_i, if_pos ⟨rfl, rfl⟩]
  have f182 : F_182 N g x (nI a) (if co = true then 1 else 0) σ = (match fnd l w E k with
      | none => J_182_36 N g x (nI a) σ
      | some j => if co = true ∧ (E.getD j eN).2.1 ≠ 1 then J_182_36 N g x (nI a) σ else J_182_54 N g x (nI a) (nI j) σ) := by
    unfold F_182
    rw [a3, ob_some]
    dsimp only
    rw [fd, ob_some]
    cases hj : fnd l w E k with
    | none =>
      dsimp only
      rw [if_pos (by decide)]
    | some j =>
      have lt := fnd_lt hj
      have l72 := hR.2.2.2.2.2.1
      have s3 := hR.2.2.2.2.2.2 j lt
      have at3 : N_139 N 153 (nI j) σ = some (nI (E.getD j eN).2.1, σ) := nf_at hR.2.1 lt
      dsimp only
      rw [if_neg (fun z => by have := (nI_lti (b := 0) (by omega) (by decide)).mp z; omega)]
      cases co with
      | false => rw [if_neg Bool.false_ne_true, if_pos rfl, if_neg (fun z => Bool.false_ne_true z.1)]
      | true =>
        rw [if_pos rfl, if_neg (by decide), at3, ob_some]
        dsimp only
        have e1 : nI (E.getD j eN).2.1 = 1 ↔ (E.getD j eN).2.1 = 1 := nI_eq (b := 1) (by omega) (by decide)
        by_cases z : (E.getD j eN).2.1 = 1
        · rw [if_pos (e1.mpr z), if_neg (fun y => y.2 z)]
        · rw [if_neg (fun y => z (e1.mp y)), if_pos ⟨rfl, z⟩]
  unfold chn
  cases hj : fnd l w E k with
  | none =>
    rw [hj] at f182
    exact bad f182
  | some j =>
    rw [hj] at f182
    dsimp only at f182 ⊢
    by_cases z : co = true ∧ (E.getD j eN).2.1 ≠ 1
    · rw [if_pos z] at f182 ⊢
      exact bad f182
    · rw [if_neg z] at f182 ⊢
      dsimp only
      have lt := fnd_lt hj
      have l72 := hR.2.2.2.2.2.1
      obtain ⟨s31, s32, s33, s34⟩ := hR.2.2.2.2.2.2 j lt
      have at3 : N_139 N 153 (nI j) σ = some (nI (E.getD j eN).2.1, σ) := nf_at hR.2.1 lt
      have at5 : N_139 N 155 (nI j) σ = some (nI (E.getD j eN).2.2.2.2.2.2.2, σ) := nf_at hR.2.2.1 lt
      obtain ⟨b1, b2, b3⟩ := ds_set hD (c := 3) ha (by decide) (vix E j)
      have b1 : aB (nI a) (gN σ (g + 8)) := b1
      have b3 : DS (st_e σ (g + 8) a (vix E j)) g n (pat D a 3 (vix E j)) := b3
      have fe : Fr 0 [] [] [] [g + 8] [] σ (st_e σ (g + 8) a (vix E j)) := Fr.e σ a _ (by simp)
      have at3' : N_139 N 153 (nI j) (st_e σ (g + 8) a (vix E j)) = some (nI (E.getD j eN).2.1, st_e σ (g + 8) a (vix E j)) := nf_at (hR.2.1.fr fe (by simp) (by simp only [List.mem_cons, List.not_mem_nil, or_false]; omega)) lt
      have e3 : nI (E.getD j eN).2.1 = 3 ↔ (E.getD j eN).2.1 = 3 := nI_eq (b := 3) (by omega) (by decide)
      have ev : (if nI (E.getD j eN).2.1 = 3 then (100 + nI (E.getD j eN).2.2.2.2.2.2.2) else nI (E.getD j eN).2.2.2.2.2.2.2 : Int32) = vix E j := by
        unfold vix
        by_cases y : (E.getD j eN).2.1 = 3
        · rw [if_pos (e3.mpr y), if_pos y]
          exact nI_add 100 _
        · rw [if_neg (fun q => y (e3.mp q)), if_neg y]
      have g18 : ∀ i, gE (st_e σ (g + 8) a (vix E j)) (g + 18) i = gE σ (g + 18) i := fun i => st_u_a _ _ _ _ (by omega)
      have g14 : ∀ i, gE (st_e σ (g + 8) a (vix E j)) (g + 14) i = gE σ (g + 14) i := fun i => st_u_a _ _ _ _ (by omega)
      have f54 : J_182_54 N g x (nI a) (nI j) σ = some (nI ((if (E.getD j eN).2.2.1 = true then 2 else 1) - 1), st_e σ (g + 8) a (vix E j)) := by
        unfold J_182_54
        rw [at5, ob_some]
        dsimp only
        rw [at3, ob_some]
        dsimp only
        rw [if_pos b1, b2, ev, at3', ob_some]
        dsimp only
        by_cases y : (E.getD j eN).2.1 = 3
        · obtain ⟨y1, y2⟩ := s33 y
          rw [if_pos (e3.mpr y), if_pos (show aB (nI (E.getD j eN).2.2.2.2.2.2.2) (gN (st_e σ (g + 8) a (vix E j)) (g + 18)) by show aB _ (gN σ (g + 18)); rw [hR.2.2.2.2.1]; exact aB_nI y1 (by decide)), nI_clamp (by omega), g18, y2]
          cases (E.getD j eN).2.2.1 <;> rfl
        · obtain ⟨y1, y2⟩ := s34 y
          rw [if_neg (fun q => y (e3.mp q)), if_pos (show aB (nI (E.getD j eN).2.2.2.2.2.2.2) (gN (st_e σ (g + 8) a (vix E j)) (g + 14)) by show aB _ (gN σ (g + 14)); rw [hR.2.2.2.1]; exact aB_nI y1 (by decide)), nI_clamp (by omega), g14, y2]
          cases (E.getD j eN).2.2.1 <;> rfl
      have h1 : LQ g x l w E σ0 (st_e σ (g + 8) a (vix E j)) R (Vs ++ []) n (pat D a 3 (vix E j)) := by
        rw [List.append_nil]
        exact h.mo hg hx (fe.mo (by simp) (by simp) (by simp) (by simp) (by simp)) (h.2.2.2.2.1.fr fe (by simp) (by simp only [List.mem_cons, List.not_mem_nil, or_false]; omega)) (h6.fr fe (by simp) (by simp only [List.mem_cons, List.not_mem_nil, or_false]; omega)) b3
      obtain ⟨σ', c1, c2, c3⟩ := J180 (pl := kP w k) (tr := (if (E.getD j eN).2.2.1 = true then 2 else 1) - 1) (gd := true) G' h1 hf (by rw [List.append_nil]; omega)
      rw [if_pos rfl] at c1 c3
      refine ⟨σ', j, ?_, c3, c2, rfl, by split <;> omega⟩
      rw [F, f182, f54, ob_some]
      exact c1
end LA
