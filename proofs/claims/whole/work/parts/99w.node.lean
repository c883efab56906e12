/-! the class's checker: one node -/
theorem Fr.l {c : Nat} {I J R : List (Nat × Nat)} {A L : List Nat} (σ : st_S) {a k : Nat} (v : Int64) (h : (a, k) ∈ J) : Fr 0 I J R A L σ (st_l σ a k v) := by
  refine ⟨fun _ _ _ => rfl, fun b j q => ?_, fun _ _ _ => rfl, fun _ _ => ⟨rfl, rfl⟩, fun _ _ => rfl, rfl, Po.of rfl rfl rfl rfl⟩
  show st_u σ.2.1 a k v b j = σ.2.1 b j
  by_cases e : b = a
  · by_cases e2 : j = k
    · subst e e2; exact absurd h q
    · exact st_u_k _ _ _ _ e2
  · exact st_u_a _ _ _ _ e
/-- what the checker and its machine may change -/
def FK (t : Nat) (σ σ' : st_S) : Prop := Fr 0 [(46, 4), (46, 5), (46, 6), (46, 7), (46, 8), (46, 9), (46, 10), (46, 11), (46, 12), (47, 5), (42, 5), (42, 6), (t, 7), (t, 8), (t, 9), (t, 10), (t, 11)] [(42, 7), (42, 8)] [] [t + 2, t + 3, t + 4, t + 5, t + 6, t + 7, t + 8, t + 9, t + 10, t + 11, t + 12, t + 13, t + 14, t + 15, 44, 45, 48, 49, 50, 51] [] σ σ' ∧ gN σ' = gN σ ∧ gC σ' = gC σ
section FKS
variable {t : Nat} {σ σ' σ'' : st_S}
theorem FK.rf (σ : st_S) : FK t σ σ := ⟨Fr.rf σ, rfl, rfl⟩
theorem FK.tr (h : FK t σ σ') (h' : FK t σ' σ'') : FK t σ σ'' := ⟨Fr.t0 h.1 h'.1, h'.2.1.trans h.2.1, h'.2.2.trans h.2.2⟩
theorem FK.i (σ : st_S) {a k : Nat} (v : Int32) (h : (a, k) ∈ [(46, 4), (46, 5), (46, 6), (46, 7), (46, 8), (46, 9), (46, 10), (46, 11), (46, 12), (47, 5), (42, 5), (42, 6), (t, 7), (t, 8), (t, 9), (t, 10), (t, 11)]) : FK t σ (st_i σ a k v) := ⟨Fr.i σ v h, rfl, rfl⟩
theorem FK.l (σ : st_S) {k : Nat} (v : Int64) (h : k = 7 ∨ k = 8) : FK t σ (st_l σ 42 k v) := ⟨Fr.l (c := 0) σ v (by rcases h with rfl | rfl <;> simp), rfl, rfl⟩
theorem FK.e (σ : st_S) {a : Nat} (j : Nat) (v : Int32) (h : a ∈ [t + 2, t + 3, t + 4, t + 5, t + 6, t + 7, t + 8, t + 9, t + 10, t + 11, t + 12, t + 13, t + 14, t + 15, 44, 45, 48, 49, 50, 51]) : FK t σ (st_e σ a j v) := ⟨Fr.e σ j v h, rfl, rfl⟩
theorem FK.c (σ : st_S) {c : Nat} (hc : c < 8) (j : Nat) (v : Int32) : FK t σ (st_e σ (t + 2 + c) j v) := FK.e σ j v (by
  rcases c8 hc with rfl | rfl | rfl | rfl | rfl | rfl | rfl | rfl <;> simp)
/-- .. of a rule -/
def FN (t : Nat) (σ σ' : st_S) : Prop := Fr 0 [(46, 4)] [] [] [t + 2, t + 3, t + 4, t + 5, t + 6, t + 7, t + 8, t + 9] [] σ σ' ∧ gN σ' = gN σ ∧ gC σ' = gC σ
theorem FN.rf (σ : st_S) : FN t σ σ := ⟨Fr.rf σ, rfl, rfl⟩
theorem FN.tr (h : FN t σ σ') (h' : FN t σ' σ'') : FN t σ σ'' := ⟨Fr.t0 h.1 h'.1, h'.2.1.trans h.2.1, h'.2.2.trans h.2.2⟩
theorem FN.i (σ : st_S) {a k : Nat} (v : Int32) (h : (a, k) ∈ [(46, 4)]) : FN t σ (st_i σ a k v) := ⟨Fr.i σ v h, rfl, rfl⟩
theorem FN.c (σ : st_S) {c : Nat} (hc : c < 8) (j : Nat) (v : Int32) : FN t σ (st_e σ (t + 2 + c) j v) := ⟨Fr.e σ j v (by
  rcases c8 hc with rfl | rfl | rfl | rfl | rfl | rfl | rfl | rfl <;> simp), rfl, rfl⟩
theorem FN.fk (h : FN t σ σ') : FK t σ σ' := ⟨h.1.mo (by intro a q; simp only [List.mem_cons, List.not_mem_nil, or_false] at q ⊢; exact Or.inl q) (by simp) (by simp) (by intro a q; simp only [List.mem_cons, List.not_mem_nil, or_false] at q ⊢; omega) (by simp), h.2⟩
end FKS
/-- the code's nodes stand in the store -/
def CS (σ : st_S) (t n : Nat) (M : Nat → Nat → Int32) : Prop := gI σ (t + 1) 8 = nI n ∧ n ≤ 24600 ∧ (∀ c, c < 8 → n ≤ gN σ (t + 2 + c) ∧ gN σ (t + 2 + c) ≤ 50000) ∧ (∀ c, c < 8 → ∀ i, i < n → gE σ (t + 2 + c) i = M i c)
section CSS
variable {N : Nat} {σ : st_S} {t n : Nat} {M : Nat → Nat → Int32}
theorem CS.a (h : CS σ t n M) {c i : Nat} (hc : c < 8) (hi : i < n) : aB (nI i) (gN σ (t + 2 + c)) := by
  obtain ⟨h1, h2, h3, h4⟩ := h
  have := h3 c hc
  exact aB_nI (by omega) (by omega)
theorem CS.g (h : CS σ t n M) {c i : Nat} (hc : c < 8) (hi : i < n) : gE σ (t + 2 + c) (nI i).toNatClampNeg = M i c := by
  obtain ⟨h1, h2, h3, h4⟩ := h
  rw [nI_clamp (by omega)]
  exact h4 c hc i hi
theorem CS.e (h : CS σ t n M) {c i : Nat} (hc : c < 8) (v : Int32) : CS (st_e σ (t + 2 + c) i v) t n (pat M i c v) := by
  obtain ⟨h1, h2, h3, h4⟩ := h
  refine ⟨h1, h2, h3, fun d hd j hj => ?_⟩
  show st_u (gE σ) (t + 2 + c) i v (t + 2 + d) j = if j = i ∧ d = c then v else M j d
  unfold st_u
  by_cases e : j = i ∧ d = c
  · rw [if_pos e, if_pos ⟨by omega, e.1⟩]
  · rw [if_neg e, if_neg (fun q => e ⟨q.2, by omega⟩)]
    exact h4 d hd j hj
theorem CS.x (h : CS σ t n M) {a i : Nat} (ha : a < t + 2 ∨ t + 10 ≤ a) (v : Int32) : CS (st_e σ a i v) t n M := by
  obtain ⟨h1, h2, h3, h4⟩ := h
  refine ⟨h1, h2, h3, fun d hd j hj => ?_⟩
  show st_u (gE σ) a i v (t + 2 + d) j = _
  rw [st_u_a _ _ _ _ (by omega)]
  exact h4 d hd j hj
theorem CS.i (h : CS σ t n M) {a k : Nat} (ha : a ≠ t + 1) (v : Int32) : CS (st_i σ a k v) t n M := by
  obtain ⟨h1, h2, h3, h4⟩ := h
  refine ⟨?_, h2, h3, h4⟩
  rw [gI_i, if_neg (fun z => ha z.1.symm)]
  exact h1
theorem CS.l (h : CS σ t n M) {a k : Nat} (v : Int64) : CS (st_l σ a k v) t n M := h
/-- what a check leaves -/
def fin5 (σ : st_S) (t i : Nat) (kd pl : Int32) (b : Bool) : Option (Int32 × st_S) := if b then some (0, st_e σ (t + 7) i kd) else some (3, st_i (st_e σ (t + 7) i kd) 46 4 pl)
theorem F65' (h : CS σ t n M) {i : Nat} (hi : i < n) (kd x : Int32) (b : Bool) (hx : x = bI b) : F_65 N t (nI i) kd x σ = fin5 σ t i kd (M i 1) b := by
  have a7 : aB (nI i) (gN σ (t + 7)) := h.a (c := 5) (by decide) hi
  have a3 : aB (nI i) (gN σ (t + 3)) := h.a (c := 1) (by decide) hi
  have g3 : gE σ (t + 3) (nI i).toNatClampNeg = M i 1 := h.g (c := 1) (by decide) hi
  have cl : (nI i).toNatClampNeg = i := nI_clamp (by have := h.2.1; omega)
  unfold F_65 fin5
  rw [if_pos a7, hx]
  cases b with
  | false =>
    rw [if_pos (by decide), if_pos a3, g3, cl, if_neg Bool.false_ne_true]
    rfl
  | true =>
    rw [if_neg (by decide), cl, if_pos rfl]
theorem F63' (h : CS σ t n M) {i a : Nat} (hi : i < n) (ha : a < n) (e : M i 2 = nI a) : F_63 N t (nI i) σ = some (M a 5, σ) := by
  have a4 : aB (nI i) (gN σ (t + 4)) := h.a (c := 2) (by decide) hi
  have g4 : gE σ (t + 4) (nI i).toNatClampNeg = nI a := (h.g (c := 2) (by decide) hi).trans e
  have a7 : aB (nI a) (gN σ (t + 7)) := h.a (c := 5) (by decide) ha
  have g7 : gE σ (t + 7) (nI a).toNatClampNeg = M a 5 := h.g (c := 5) (by decide) ha
  unfold F_63
  rw [if_pos a4]
  simp only [g4, if_pos a7, g7]
theorem F64' (h : CS σ t n M) {i a b : Nat} (hi : i < n) (ha : a < n) (hb : b < n) (e : M i 2 = nI a) (e2 : M i 3 = nI b) (x : Int32) : F_64 N t (nI i) x σ = some (bI (decide (M a 5 = x) && decide (M b 5 = x)), σ) := by
  have a4 : aB (nI i) (gN σ (t + 4)) := h.a (c := 2) (by decide) hi
  have g4 : gE σ (t + 4) (nI i).toNatClampNeg = nI a := (h.g (c := 2) (by decide) hi).trans e
  have a7 : aB (nI a) (gN σ (t + 7)) := h.a (c := 5) (by decide) ha
  have g7 : gE σ (t + 7) (nI a).toNatClampNeg = M a 5 := h.g (c := 5) (by decide) ha
  have a5 : aB (nI i) (gN σ (t + 5)) := h.a (c := 3) (by decide) hi
  have g5 : gE σ (t + 5) (nI i).toNatClampNeg = nI b := (h.g (c := 3) (by decide) hi).trans e2
  have b7 : aB (nI b) (gN σ (t + 7)) := h.a (c := 5) (by decide) hb
  have h7 : gE σ (t + 7) (nI b).toNatClampNeg = M b 5 := h.g (c := 5) (by decide) hb
  unfold F_64
  rw [if_pos a4]
  simp only [g4, if_pos a7, g7, if_pos a5, g5, if_pos b7, h7]
  by_cases c : M a 5 = x
  · rw [if_pos c, decide_eq_true c, Bool.true_and]
    by_cases d : M b 5 = x
    · rw [if_pos d, decide_eq_true d]; rfl
    · rw [if_neg d, decide_eq_false d]; rfl
  · rw [if_neg c, decide_eq_false c, Bool.false_and]; rfl
theorem bd_id {x : Option (Int32 × st_S)} : (x.bind fun p => some (p.1, p.2)) = x := by
  cases x with
  | none => rfl
  | some p => rfl
/-- a node's kind, and does it fit -/
def ckn (op : Nat) (ka kb kc : Int32) : Int32 × Bool :=
  if op = 9 ∨ op = 22 then (1, decide (ka = 1))
  else if op = 16 then (2, decide (ka = 2))
  else if op = 10 ∨ op = 11 then (2, decide (kb = ka))
  else if 12 ≤ op ∧ op ≤ 15 then (2, decide (ka = 1) && decide (kb = 1))
  else if op = 17 ∨ op = 18 then (2, decide (ka = 2) && decide (kb = 2))
  else if op = 19 then (kb, decide (ka = 2) && decide (kc = kb))
  else if op = 20 ∨ op = 21 then (if (decide (ka = 1) && decide (kb = 1)) = true then 1 else 0, true)
  else (1, decide (ka = 1) && decide (kb = 1))
theorem F66' (h : CS σ t n M) {i a b c : Nat} (hi : i < n) (ha : a < n) (hb : b < n) (hc : c < n) (e : M i 2 = nI a) (e2 : M i 3 = nI b) (e3 : M i 4 = nI c) : F_66 N t (nI i) σ = fin5 σ t i (M b 5) (M i 1) (decide (M a 5 = 2) && decide (M c 5 = M b 5)) := by
  have a5 : aB (nI i) (gN σ (t + 5)) := h.a (c := 3) (by decide) hi
  have g5 : gE σ (t + 5) (nI i).toNatClampNeg = nI b := (h.g (c := 3) (by decide) hi).trans e2
  have b7 : aB (nI b) (gN σ (t + 7)) := h.a (c := 5) (by decide) hb
  have h7 : gE σ (t + 7) (nI b).toNatClampNeg = M b 5 := h.g (c := 5) (by decide) hb
  have a6 : aB (nI i) (gN σ (t + 6)) := h.a (c := 4) (by decide) hi
  have g6 : gE σ (t + 6) (nI i).toNatClampNeg = nI c := (h.g (c := 4) (by decide) hi).trans e3
  have c7 : aB (nI c) (gN σ (t + 7)) := h.a (c := 5) (by decide) hc
  have i7 : gE σ (t + 7) (nI c).toNatClampNeg = M c 5 := h.g (c := 5) (by decide) hc
  unfold F_66 J_66_52
  rw [if_pos a5]
  simp only [g5, if_pos b7, h7, F63' h hi ha e, ob_some, if_pos a6, g6, if_pos c7, i7, F65' h hi _ 1 true rfl, F65' h hi _ 0 false rfl, bd_id]
  by_cases d : M a 5 = 2
  · rw [if_pos d, decide_eq_true d, Bool.true_and]
    by_cases d2 : M c 5 = M b 5
    · rw [if_pos d2, decide_eq_true d2]
    · rw [if_neg d2, decide_eq_false d2]
  · rw [if_neg d, decide_eq_false d, Bool.false_and]
theorem bI_d {c : Prop} [Decidable c] : (if c then 1 else 0 : Int32) = bI (decide c) := by
  by_cases h : c
  · rw [if_pos h, decide_eq_true h]; rfl
  · rw [if_neg h, decide_eq_false h]; rfl
/-- a node of an operation -/
theorem F57' (h : CS σ t n M) {i op a b c : Nat} (hi : i < n) (ho : 4 ≤ op) (ho2 : op ≤ 22) (e0 : M i 0 = nI op) (ha : a < n) (e : M i 2 = nI a) (hb : op ≠ 9 → op ≠ 16 → op ≠ 22 → b < n ∧ M i 3 = nI b) (hc : op = 19 → c < n ∧ M i 4 = nI c) : F_57 N t (nI i) σ = fin5 σ t i (ckn op (M a 5) (M b 5) (M c 5)).1 (M i 1) (ckn op (M a 5) (M b 5) (M c 5)).2 := by
  have a2 : aB (nI i) (gN σ (t + 2)) := h.a (c := 0) (by decide) hi
  have g2 : gE σ (t + 2) (nI i).toNatClampNeg = nI op := (h.g (c := 0) (by decide) hi).trans e0
  have f63 := F63' (N := N) h hi ha e
  unfold F_57
  rw [if_pos a2]
  simp only [g2]
  have hop : op = 4 ∨ op = 5 ∨ op = 6 ∨ op = 7 ∨ op = 8 ∨ op = 9 ∨ op = 10 ∨ op = 11 ∨ op = 12 ∨ op = 13 ∨ op = 14 ∨ op = 15 ∨ op = 16 ∨ op = 17 ∨ op = 18 ∨ op = 19 ∨ op = 20 ∨ op = 21 ∨ op = 22 := by omega
  rcases hop with rfl | rfl | rfl | rfl | rfl | rfl | rfl | rfl | rfl | rfl | rfl | rfl | rfl | rfl | rfl | rfl | rfl | rfl | rfl
  · rw [if_neg (show ¬ nI 4 = 1 by decide), if_pos (show nI 4 = 4 from rfl)]
    obtain ⟨hb, e2⟩ := hb (by decide) (by decide) (by decide)
    rw [F64' h hi ha hb e e2, ob_some, F65' h hi 1 _ _ rfl, bd_id]
    rfl
  · rw [if_neg (show ¬ nI 5 = 1 by decide), if_neg (show ¬ nI 5 = 4 by decide), if_pos (show nI 5 = 5 from rfl)]
    obtain ⟨hb, e2⟩ := hb (by decide) (by decide) (by decide)
    rw [F64' h hi ha hb e e2, ob_some, F65' h hi 1 _ _ rfl, bd_id]
    rfl
  · rw [if_neg (show ¬ nI 6 = 1 by decide), if_neg (show ¬ nI 6 = 4 by decide), if_neg (show ¬ nI 6 = 5 by decide), if_pos (show nI 6 = 6 from rfl)]
    obtain ⟨hb, e2⟩ := hb (by decide) (by decide) (by decide)
    rw [F64' h hi ha hb e e2, ob_some, F65' h hi 1 _ _ rfl, bd_id]
    rfl
  · rw [if_neg (show ¬ nI 7 = 1 by decide), if_neg (show ¬ nI 7 = 4 by decide), if_neg (show ¬ nI 7 = 5 by decide), if_neg (show ¬ nI 7 = 6 by decide), if_pos (show nI 7 = 7 from rfl)]
    obtain ⟨hb, e2⟩ := hb (by decide) (by decide) (by decide)
    rw [F64' h hi ha hb e e2, ob_some, F65' h hi 1 _ _ rfl, bd_id]
    rfl
  · rw [if_neg (show ¬ nI 8 = 1 by decide), if_neg (show ¬ nI 8 = 4 by decide), if_neg (show ¬ nI 8 = 5 by decide), if_neg (show ¬ nI 8 = 6 by decide), if_neg (show ¬ nI 8 = 7 by decide), if_pos (show nI 8 = 8 from rfl)]
    obtain ⟨hb, e2⟩ := hb (by decide) (by decide) (by decide)
    rw [F64' h hi ha hb e e2, ob_some, F65' h hi 1 _ _ rfl, bd_id]
    rfl
  · rw [if_neg (show ¬ nI 9 = 1 by decide), if_neg (show ¬ nI 9 = 4 by decide), if_neg (show ¬ nI 9 = 5 by decide), if_neg (show ¬ nI 9 = 6 by decide), if_neg (show ¬ nI 9 = 7 by decide), if_neg (show ¬ nI 9 = 8 by decide), if_pos (show nI 9 = 9 from rfl)]
    rw [f63, ob_some, F65' h hi 1 _ (decide (M a 5 = 1)) bI_d, bd_id]
    rfl
  · rw [if_neg (show ¬ nI 10 = 1 by decide), if_neg (show ¬ nI 10 = 4 by decide), if_neg (show ¬ nI 10 = 5 by decide), if_neg (show ¬ nI 10 = 6 by decide), if_neg (show ¬ nI 10 = 7 by decide), if_neg (show ¬ nI 10 = 8 by decide), if_neg (show ¬ nI 10 = 9 by decide), if_pos (show nI 10 = 10 from rfl)]
    obtain ⟨hb, e2⟩ := hb (by decide) (by decide) (by decide)
    rw [f63, ob_some, F64' h hi ha hb e e2, ob_some, F65' h hi 2 _ _ rfl, bd_id, decide_eq_true (show M a 5 = M a 5 from rfl), Bool.true_and]
    rfl
  · rw [if_neg (show ¬ nI 11 = 1 by decide), if_neg (show ¬ nI 11 = 4 by decide), if_neg (show ¬ nI 11 = 5 by decide), if_neg (show ¬ nI 11 = 6 by decide), if_neg (show ¬ nI 11 = 7 by decide), if_neg (show ¬ nI 11 = 8 by decide), if_neg (show ¬ nI 11 = 9 by decide), if_neg (show ¬ nI 11 = 10 by decide), if_pos (show nI 11 = 11 from rfl)]
    obtain ⟨hb, e2⟩ := hb (by decide) (by decide) (by decide)
    rw [f63, ob_some, F64' h hi ha hb e e2, ob_some, F65' h hi 2 _ _ rfl, bd_id, decide_eq_true (show M a 5 = M a 5 from rfl), Bool.true_and]
    rfl
  · rw [if_neg (show ¬ nI 12 = 1 by decide), if_neg (show ¬ nI 12 = 4 by decide), if_neg (show ¬ nI 12 = 5 by decide), if_neg (show ¬ nI 12 = 6 by decide), if_neg (show ¬ nI 12 = 7 by decide), if_neg (show ¬ nI 12 = 8 by decide), if_neg (show ¬ nI 12 = 9 by decide), if_neg (show ¬ nI 12 = 10 by decide), if_neg (show ¬ nI 12 = 11 by decide), if_pos (show nI 12 = 12 from rfl)]
    obtain ⟨hb, e2⟩ := hb (by decide) (by decide) (by decide)
    rw [F64' h hi ha hb e e2, ob_some, F65' h hi 2 _ _ rfl, bd_id]
    rfl
  · rw [if_neg (show ¬ nI 13 = 1 by decide), if_neg (show ¬ nI 13 = 4 by decide), if_neg (show ¬ nI 13 = 5 by decide), if_neg (show ¬ nI 13 = 6 by decide), if_neg (show ¬ nI 13 = 7 by decide), if_neg (show ¬ nI 13 = 8 by decide), if_neg (show ¬ nI 13 = 9 by decide), if_neg (show ¬ nI 13 = 10 by decide), if_neg (show ¬ nI 13 = 11 by decide), if_neg (show ¬ nI 13 = 12 by decide), if_pos (show nI 13 = 13 from rfl)]
    obtain ⟨hb, e2⟩ := hb (by decide) (by decide) (by decide)
    rw [F64' h hi ha hb e e2, ob_some, F65' h hi 2 _ _ rfl, bd_id]
    rfl
  · rw [if_neg (show ¬ nI 14 = 1 by decide), if_neg (show ¬ nI 14 = 4 by decide), if_neg (show ¬ nI 14 = 5 by decide), if_neg (show ¬ nI 14 = 6 by decide), if_neg (show ¬ nI 14 = 7 by decide), if_neg (show ¬ nI 14 = 8 by decide), if_neg (show ¬ nI 14 = 9 by decide), if_neg (show ¬ nI 14 = 10 by decide), if_neg (show ¬ nI 14 = 11 by decide), if_neg (show ¬ nI 14 = 12 by decide), if_neg (show ¬ nI 14 = 13 by decide), if_pos (show nI 14 = 14 from rfl)]
    obtain ⟨hb, e2⟩ := hb (by decide) (by decide) (by decide)
    rw [F64' h hi ha hb e e2, ob_some, F65' h hi 2 _ _ rfl, bd_id]
    rfl
  · rw [if_neg (show ¬ nI 15 = 1 by decide), if_neg (show ¬ nI 15 = 4 by decide), if_neg (show ¬ nI 15 = 5 by decide), if_neg (show ¬ nI 15 = 6 by decide), if_neg (show ¬ nI 15 = 7 by decide), if_neg (show ¬ nI 15 = 8 by decide), if_neg (show ¬ nI 15 = 9 by decide), if_neg (show ¬ nI 15 = 10 by decide), if_neg (show ¬ nI 15 = 11 by decide), if_neg (show ¬ nI 15 = 12 by decide), if_neg (show ¬ nI 15 = 13 by decide), if_neg (show ¬ nI 15 = 14 by decide), if_pos (show nI 15 = 15 from rfl)]
    obtain ⟨hb, e2⟩ := hb (by decide) (by decide) (by decide)
    rw [F64' h hi ha hb e e2, ob_some, F65' h hi 2 _ _ rfl, bd_id]
    rfl
  · rw [if_neg (show ¬ nI 16 = 1 by decide), if_neg (show ¬ nI 16 = 4 by decide), if_neg (show ¬ nI 16 = 5 by decide), if_neg (show ¬ nI 16 = 6 by decide), if_neg (show ¬ nI 16 = 7 by decide), if_neg (show ¬ nI 16 = 8 by decide), if_neg (show ¬ nI 16 = 9 by decide), if_neg (show ¬ nI 16 = 10 by decide), if_neg (show ¬ nI 16 = 11 by decide), if_neg (show ¬ nI 16 = 12 by decide), if_neg (show ¬ nI 16 = 13 by decide), if_neg (show ¬ nI 16 = 14 by decide), if_neg (show ¬ nI 16 = 15 by decide), if_pos (show nI 16 = 16 from rfl)]
    rw [f63, ob_some, F65' h hi 2 _ (decide (M a 5 = 2)) bI_d, bd_id]
    rfl
  · rw [if_neg (show ¬ nI 17 = 1 by decide), if_neg (show ¬ nI 17 = 4 by decide), if_neg (show ¬ nI 17 = 5 by decide), if_neg (show ¬ nI 17 = 6 by decide), if_neg (show ¬ nI 17 = 7 by decide), if_neg (show ¬ nI 17 = 8 by decide), if_neg (show ¬ nI 17 = 9 by decide), if_neg (show ¬ nI 17 = 10 by decide), if_neg (show ¬ nI 17 = 11 by decide), if_neg (show ¬ nI 17 = 12 by decide), if_neg (show ¬ nI 17 = 13 by decide), if_neg (show ¬ nI 17 = 14 by decide), if_neg (show ¬ nI 17 = 15 by decide), if_neg (show ¬ nI 17 = 16 by decide), if_pos (show nI 17 = 17 from rfl)]
    obtain ⟨hb, e2⟩ := hb (by decide) (by decide) (by decide)
    rw [F64' h hi ha hb e e2, ob_some, F65' h hi 2 _ _ rfl, bd_id]
    rfl
  · rw [if_neg (show ¬ nI 18 = 1 by decide), if_neg (show ¬ nI 18 = 4 by decide), if_neg (show ¬ nI 18 = 5 by decide), if_neg (show ¬ nI 18 = 6 by decide), if_neg (show ¬ nI 18 = 7 by decide), if_neg (show ¬ nI 18 = 8 by decide), if_neg (show ¬ nI 18 = 9 by decide), if_neg (show ¬ nI 18 = 10 by decide), if_neg (show ¬ nI 18 = 11 by decide), if_neg (show ¬ nI 18 = 12 by decide), if_neg (show ¬ nI 18 = 13 by decide), if_neg (show ¬ nI 18 = 14 by decide), if_neg (show ¬ nI 18 = 15 by decide), if_neg (show ¬ nI 18 = 16 by decide), if_neg (show ¬ nI 18 = 17 by decide), if_pos (show nI 18 = 18 from rfl)]
    obtain ⟨hb, e2⟩ := hb (by decide) (by decide) (by decide)
    rw [F64' h hi ha hb e e2, ob_some, F65' h hi 2 _ _ rfl, bd_id]
    rfl
  · rw [if_neg (show ¬ nI 19 = 1 by decide), if_neg (show ¬ nI 19 = 4 by decide), if_neg (show ¬ nI 19 = 5 by decide), if_neg (show ¬ nI 19 = 6 by decide), if_neg (show ¬ nI 19 = 7 by decide), if_neg (show ¬ nI 19 = 8 by decide), if_neg (show ¬ nI 19 = 9 by decide), if_neg (show ¬ nI 19 = 10 by decide), if_neg (show ¬ nI 19 = 11 by decide), if_neg (show ¬ nI 19 = 12 by decide), if_neg (show ¬ nI 19 = 13 by decide), if_neg (show ¬ nI 19 = 14 by decide), if_neg (show ¬ nI 19 = 15 by decide), if_neg (show ¬ nI 19 = 16 by decide), if_neg (show ¬ nI 19 = 17 by decide), if_neg (show ¬ nI 19 = 18 by decide), if_pos (show nI 19 = 19 from rfl)]
    obtain ⟨hb, e2⟩ := hb (by decide) (by decide) (by decide)
    obtain ⟨hc, e3⟩ := hc rfl
    rw [F66' h hi ha hb hc e e2 e3, bd_id]
    rfl
  · rw [if_neg (show ¬ nI 20 = 1 by decide), if_neg (show ¬ nI 20 = 4 by decide), if_neg (show ¬ nI 20 = 5 by decide), if_neg (show ¬ nI 20 = 6 by decide), if_neg (show ¬ nI 20 = 7 by decide), if_neg (show ¬ nI 20 = 8 by decide), if_neg (show ¬ nI 20 = 9 by decide), if_neg (show ¬ nI 20 = 10 by decide), if_neg (show ¬ nI 20 = 11 by decide), if_neg (show ¬ nI 20 = 12 by decide), if_neg (show ¬ nI 20 = 13 by decide), if_neg (show ¬ nI 20 = 14 by decide), if_neg (show ¬ nI 20 = 15 by decide), if_neg (show ¬ nI 20 = 16 by decide), if_neg (show ¬ nI 20 = 17 by decide), if_neg (show ¬ nI 20 = 18 by decide), if_neg (show ¬ nI 20 = 19 by decide), if_pos (show nI 20 = 20 from rfl)]
    obtain ⟨hb, e2⟩ := hb (by decide) (by decide) (by decide)
    rw [F64' h hi ha hb e e2, ob_some, F65' h hi _ 1 true rfl, bd_id]
    unfold ckn
    simp only []
    cases (decide (M a 5 = 1) && decide (M b 5 = 1)) <;> rfl
  · rw [if_neg (show ¬ nI 21 = 1 by decide), if_neg (show ¬ nI 21 = 4 by decide), if_neg (show ¬ nI 21 = 5 by decide), if_neg (show ¬ nI 21 = 6 by decide), if_neg (show ¬ nI 21 = 7 by decide), if_neg (show ¬ nI 21 = 8 by decide), if_neg (show ¬ nI 21 = 9 by decide), if_neg (show ¬ nI 21 = 10 by decide), if_neg (show ¬ nI 21 = 11 by decide), if_neg (show ¬ nI 21 = 12 by decide), if_neg (show ¬ nI 21 = 13 by decide), if_neg (show ¬ nI 21 = 14 by decide), if_neg (show ¬ nI 21 = 15 by decide), if_neg (show ¬ nI 21 = 16 by decide), if_neg (show ¬ nI 21 = 17 by decide), if_neg (show ¬ nI 21 = 18 by decide), if_neg (show ¬ nI 21 = 19 by decide), if_neg (show ¬ nI 21 = 20 by decide), if_pos (show nI 21 = 21 from rfl)]
    obtain ⟨hb, e2⟩ := hb (by decide) (by decide) (by decide)
    rw [F64' h hi ha hb e e2, ob_some, F65' h hi _ 1 true rfl, bd_id]
    unfold ckn
    simp only []
    cases (decide (M a 5 = 1) && decide (M b 5 = 1)) <;> rfl
  · rw [if_neg (show ¬ nI 22 = 1 by decide), if_neg (show ¬ nI 22 = 4 by decide), if_neg (show ¬ nI 22 = 5 by decide), if_neg (show ¬ nI 22 = 6 by decide), if_neg (show ¬ nI 22 = 7 by decide), if_neg (show ¬ nI 22 = 8 by decide), if_neg (show ¬ nI 22 = 9 by decide), if_neg (show ¬ nI 22 = 10 by decide), if_neg (show ¬ nI 22 = 11 by decide), if_neg (show ¬ nI 22 = 12 by decide), if_neg (show ¬ nI 22 = 13 by decide), if_neg (show ¬ nI 22 = 14 by decide), if_neg (show ¬ nI 22 = 15 by decide), if_neg (show ¬ nI 22 = 16 by decide), if_neg (show ¬ nI 22 = 17 by decide), if_neg (show ¬ nI 22 = 18 by decide), if_neg (show ¬ nI 22 = 19 by decide), if_neg (show ¬ nI 22 = 20 by decide), if_neg (show ¬ nI 22 = 21 by decide), if_pos (show nI 22 = 22 from rfl)]
    rw [f63, ob_some, F65' h hi 1 _ (decide (M a 5 = 1)) bI_d, bd_id]
    rfl
/-- other nodes of a rule -/
theorem F57o (h : CS σ t n M) {i op : Nat} (hi : i < n) (ho : op = 0 ∨ 23 ≤ op) (ho2 : op < 40) (e0 : M i 0 = nI op) : F_57 N t (nI i) σ = some (0, σ) := by
  have a2 : aB (nI i) (gN σ (t + 2)) := h.a (c := 0) (by decide) hi
  have g2 : gE σ (t + 2) (nI i).toNatClampNeg = nI op := (h.g (c := 0) (by decide) hi).trans e0
  unfold F_57
  rw [if_pos a2]
  simp only [g2]
  have nk : ∀ m, m < 23 → m ≠ 0 → ¬ nI op = nI m := fun m hm hm0 => nik (by omega) (by omega) (by omega)
  rw [if_neg (show ¬ nI op = 1 from nk 1 (by decide) (by decide)), if_neg (show ¬ nI op = 4 from nk 4 (by decide) (by decide)), if_neg (show ¬ nI op = 5 from nk 5 (by decide) (by decide)), if_neg (show ¬ nI op = 6 from nk 6 (by decide) (by decide)), if_neg (show ¬ nI op = 7 from nk 7 (by decide) (by decide)), if_neg (show ¬ nI op = 8 from nk 8 (by decide) (by decide)), if_neg (show ¬ nI op = 9 from nk 9 (by decide) (by decide)), if_neg (show ¬ nI op = 10 from nk 10 (by decide) (by decide)), if_neg (show ¬ nI op = 11 from nk 11 (by decide) (by decide)), if_neg (show ¬ nI op = 12 from nk 12 (by decide) (by decide)), if_neg (show ¬ nI op = 13 from nk 13 (by decide) (by decide)), if_neg (show ¬ nI op = 14 from nk 14 (by decide) (by decide)), if_neg (show ¬ nI op = 15 from nk 15 (by decide) (by decide)), if_neg (show ¬ nI op = 16 from nk 16 (by decide) (by decide)), if_neg (show ¬ nI op = 17 from nk 17 (by decide) (by decide)), if_neg (show ¬ nI op = 18 from nk 18 (by decide) (by decide)), if_neg (show ¬ nI op = 19 from nk 19 (by decide) (by decide)), if_neg (show ¬ nI op = 20 from nk 20 (by decide) (by decide)), if_neg (show ¬ nI op = 21 from nk 21 (by decide) (by decide)), if_neg (show ¬ nI op = 22 from nk 22 (by decide) (by decide))]
/-- the loop: a node of a rule -/
theorem L53v (h : CS σ t n M) {i op k : Nat} (hi : i < n) (ho : op < 26) (e0 : M i 0 = nI op) : L_53 N t (k + 1) (nI i) σ = (F_57 N t (nI i) σ).bind fun p => if p.1 = 0 then L_53 N t k (nI (i + 1)) p.2 else some (p.1, p.2) := by
  have a2 : aB (nI i) (gN σ (t + 2)) := h.a (c := 0) (by decide) hi
  have g2 : gE σ (t + 2) (nI i).toNatClampNeg = nI op := (h.g (c := 0) (by decide) hi).trans e0
  have hn := h.2.1
  conv => lhs; unfold L_53
  rw [h.1, if_neg (fun z => by have := (nI_lei (by omega) (by omega)).mp z; omega), if_pos a2]
  simp only [g2]
  rw [if_neg (fun z => by have := (nI_lei (a := 26) (by decide) (by omega)).mp z; omega), nI_1]
end CSS
