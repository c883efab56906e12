/-! the class's machine: the other nodes -/
/-- what the machine may change -/
def FM (t : Nat) (σ σ' : st_S) : Prop := Fr 0 [(42, 6)] [(42, 7), (42, 8)] [] [t + 7, t + 8, t + 9, 44, 45] [] σ σ' ∧ gN σ' = gN σ ∧ gC σ' = gC σ
section FMS
variable {t : Nat} {σ σ' σ'' : st_S}
theorem FM.rf (σ : st_S) : FM t σ σ := ⟨Fr.rf σ, rfl, rfl⟩
theorem FM.tr (h : FM t σ σ') (h' : FM t σ' σ'') : FM t σ σ'' := ⟨Fr.t0 h.1 h'.1, h'.2.1.trans h.2.1, h'.2.2.trans h.2.2⟩
theorem FM.i (σ : st_S) (v : Int32) : FM t σ (st_i σ 42 6 v) := ⟨Fr.i σ v (by simp), rfl, rfl⟩
theorem FM.e (σ : st_S) {a : Nat} (j : Nat) (v : Int32) (h : a ∈ [t + 7, t + 8, t + 9, 44, 45]) : FM t σ (st_e σ a j v) := ⟨Fr.e σ j v h, rfl, rfl⟩
theorem FM.fk (h : FM t σ σ') : FK t σ σ' := ⟨h.1.mo (by simp) (by simp) (by simp) (by intro a q; simp only [List.mem_cons, List.not_mem_nil, or_false] at q ⊢; omega) (by simp), h.2⟩
theorem Lo.fm (h : Lo t σ σ') : FM t σ σ' := by
  obtain ⟨h1, h2, h3⟩ := h
  refine ⟨⟨fun a k _ => by show σ'.1 a k = σ.1 a k; rw [h1], h3.1.2.1, fun a k _ => by show σ'.2.2.1 a k = σ.2.2.1 a k; rw [h2], fun a _ => ⟨by show σ'.2.2.2.1 a = σ.2.2.2.1 a; rw [h2], by show σ'.2.2.2.2.1 a = σ.2.2.2.2.1 a; rw [h2]⟩, fun a _ => by show σ'.2.2.2.2.2.1 a = σ.2.2.2.2.2.1 a; rw [h2], by show σ'.2.2.2.2.2.2.2.1 0 = σ.2.2.2.2.2.2.2.1 0; rw [h2], h3.1.2.2.2.2.2.2⟩, h3.2⟩
end FMS
section MC
variable {N : Nat} {σ : st_S} {t n : Nat} {M : Nat → Nat → Int32}
/-- a node has got its value -/
def Nx (t n : Nat) (σ : st_S) (M : Nat → Nat → Int32) (i : Nat) (v : Int64 × Int64) (σ' : st_S) (M' : Nat → Nat → Int32) : Prop := CS σ' t n M' ∧ (∀ j, j ≠ i → M' j = M j) ∧ (∀ c, c < 5 → M' i c = M i c) ∧ (((M i 0 = 2 ∨ ∃ op, 10 ≤ op ∧ op ≤ 18 ∧ M i 0 = nI op) → M' i 7 = M i 7) ∧ ((M i 0 = 2 ∨ ∃ op, 4 ≤ op ∧ op ≤ 18 ∧ M i 0 = nI op) → M' i 5 = M i 5)) ∧ Va M' i v ∧ FM t σ σ' ∧ (∀ a, a = 43 ∨ a = 44 ∨ a = 45 → gE σ' a = gE σ a)
theorem Nx.one (ht : t = 4 ∨ t = 20) (q : CS σ t n M) {i : Nat} {x : Int32} {v : Int64 × Int64} (h1 : x = v.1.toInt32) (h2 : M i 7 = bl1 v.2) (h5 : M i 5 = kvv v.2) : Nx t n σ M i v (st_e σ (t + 8) i x) (pat M i 6 x) := by
  refine ⟨q.e (c := 6) (by decide) x, fun j hj => pat_o _ _ hj, fun c hc => pat_c _ _ (by omega), ⟨fun _ => pat_c _ _ (by decide), fun _ => pat_c _ _ (by decide)⟩, ⟨by rw [pat_s]; exact h1, by rw [pat_c _ _ (by decide)]; exact h2, by rw [pat_c _ _ (by decide)]; exact h5⟩, FM.e σ i x (by simp), fun a ha => ?_⟩
  funext j
  exact st_u_a _ _ _ _ (by omega)
theorem Nx.two (ht : t = 4 ∨ t = 20) (q : CS σ t n M) {i : Nat} {x y : Int32} {v : Int64 × Int64} (h1 : x = v.1.toInt32) (h2 : y = bl1 v.2) (h5 : M i 5 = kvv v.2) (h0 : ¬ (M i 0 = 2 ∨ ∃ op, 10 ≤ op ∧ op ≤ 18 ∧ M i 0 = nI op)) : Nx t n σ M i v (st_e (st_e σ (t + 8) i x) (t + 9) i y) (pat (pat M i 6 x) i 7 y) := by
  refine ⟨(q.e (c := 6) (by decide) x).e (c := 7) (by decide) y, fun j hj => by rw [pat_o _ _ hj, pat_o _ _ hj], fun c hc => by rw [pat_c _ _ (by omega), pat_c _ _ (by omega)], ⟨fun z => absurd z h0, fun _ => by rw [pat_c _ _ (by decide), pat_c _ _ (by decide)]⟩, ⟨by rw [pat_c _ _ (by decide), pat_s]; exact h1, by rw [pat_s]; exact h2, by rw [pat_c _ _ (by decide), pat_c _ _ (by decide)]; exact h5⟩, (FM.e σ i x (by simp)).tr (FM.e _ i y (by simp)), fun a ha => ?_⟩
  funext j
  exact (st_u_a _ _ _ _ (by omega)).trans (st_u_a _ _ _ _ (by omega))
theorem Nx.cp (ht : t = 4 ∨ t = 20) (q : CS σ t n M) {i x : Nat} {v : Int64 × Int64} (hi : i < n) (hx : x < n) (h1 : Va M x v) (h0 : ¬ (M i 0 = 2 ∨ ∃ op, 4 ≤ op ∧ op ≤ 18 ∧ M i 0 = nI op)) : F_62 N t (nI x) (nI i) σ = some (st_e (st_e (st_e σ (t + 7) i (M x 5)) (t + 8) i (M x 6)) (t + 9) i (M x 7)) ∧ Nx t n σ M i v (st_e (st_e (st_e σ (t + 7) i (M x 5)) (t + 8) i (M x 6)) (t + 9) i (M x 7)) (pat (pat (pat M i 5 (M x 5)) i 6 (M x 6)) i 7 (M x 7)) := by
  refine ⟨F62' q hx hi, ((q.e (c := 5) (by decide) _).e (c := 6) (by decide) _).e (c := 7) (by decide) _, fun j hj => by rw [pat_o _ _ hj, pat_o _ _ hj, pat_o _ _ hj], fun c hc => by rw [pat_c _ _ (by omega), pat_c _ _ (by omega), pat_c _ _ (by omega)], ⟨fun z => absurd (z.elim Or.inl (fun ⟨op, z1, z2, z3⟩ => Or.inr ⟨op, by omega, z2, z3⟩)) h0, fun z => absurd z h0⟩, ⟨by rw [pat_c _ _ (by decide), pat_s]; exact h1.1, by rw [pat_s]; exact h1.2.1, by rw [pat_c _ _ (by decide), pat_c _ _ (by decide), pat_s]; exact h1.2.2⟩, (FM.e σ i _ (by simp)).tr ((FM.e _ i _ (by simp)).tr (FM.e _ i _ (by simp))), fun a ha => ?_⟩
  funext j
  exact (st_u_a _ _ _ _ (by omega)).trans ((st_u_a _ _ _ _ (by omega)).trans (st_u_a _ _ _ _ (by omega)))
theorem Va.cm {i : Nat} {v : Int64 × Int64} {k : Nat} (h : Va M i v) (hk : okv k v) : (M i 6).toInt64 = v.1 ∧ (M i 7).toInt64 = nb v.2 := by
  rcases hk with ⟨rfl, hk⟩ | ⟨rfl, hk⟩
  · have hk : okv 1 v := Or.inl ⟨rfl, hk⟩
    obtain ⟨a, b⟩ := h.num hk
    obtain ⟨k1, k2, k3⟩ := okv1.mp hk
    refine ⟨a, b.trans ?_⟩
    unfold nb
    rw [if_neg (fun z => by rw [z] at k2; exact absurd k2 (by decide))]
  · have hk : okv 2 v := Or.inr ⟨rfl, hk⟩
    obtain ⟨a, b⟩ := h.tru hk
    rw [a]
    rcases b with ⟨b, rfl⟩ | ⟨b, rfl⟩ <;> rw [b] <;> exact ⟨rfl, rfl⟩
theorem F77' (q : CS σ t n M) {i x y : Nat} {u v : Int64 × Int64} {ku kv : Nat} (hi : i < n) (hx : x < n) (hy : y < n) (e2 : M i 2 = nI x) (e3 : M i 3 = nI y) (hu : Va M x u) (hv : Va M y v) (k1 : okv ku u) (k2 : okv kv v) : F_77 N t (nI i) σ = some ((if u.1 * nb v.2 = v.1 * nb u.2 then 0 else if v.1 * nb u.2 ≤ u.1 * nb v.2 then 1 else -1 : Int32), σ) := by
  obtain ⟨u1, u2⟩ := hu.cm k1
  obtain ⟨v1, v2⟩ := hv.cm k2
  have a4 : aB (nI i) (gN σ (t + 4)) := q.a (c := 2) (by decide) hi
  have a5 : aB (nI i) (gN σ (t + 5)) := q.a (c := 3) (by decide) hi
  have g4 : gE σ (t + 4) (nI i).toNatClampNeg = nI x := (q.g (c := 2) (by decide) hi).trans e2
  have g5 : gE σ (t + 5) (nI i).toNatClampNeg = nI y := (q.g (c := 3) (by decide) hi).trans e3
  have x8 : aB (nI x) (gN σ (t + 8)) := q.a (c := 6) (by decide) hx
  have x9 : aB (nI x) (gN σ (t + 9)) := q.a (c := 7) (by decide) hx
  have y8 : aB (nI y) (gN σ (t + 8)) := q.a (c := 6) (by decide) hy
  have y9 : aB (nI y) (gN σ (t + 9)) := q.a (c := 7) (by decide) hy
  have gx8 : gE σ (t + 8) (nI x).toNatClampNeg = M x 6 := q.g (c := 6) (by decide) hx
  have gx9 : gE σ (t + 9) (nI x).toNatClampNeg = M x 7 := q.g (c := 7) (by decide) hx
  have gy8 : gE σ (t + 8) (nI y).toNatClampNeg = M y 6 := q.g (c := 6) (by decide) hy
  have gy9 : gE σ (t + 9) (nI y).toNatClampNeg = M y 7 := q.g (c := 7) (by decide) hy
  unfold F_77
  rw [if_pos a4, if_pos a5]
  simp only [g4, g5, if_pos x8, if_pos x9, if_pos y8, if_pos y9, gx8, gx9, gy8, gy9, u1, u2, v1, v2]
  by_cases c : u.1 * nb v.2 = v.1 * nb u.2
  · rw [if_pos c, if_pos ((lg_cmp_eq _ _).mpr c)]
  · rw [if_neg c, if_neg (fun z => c ((lg_cmp_eq _ _).mp z))]
    by_cases d : v.1 * nb u.2 ≤ u.1 * nb v.2
    · rw [if_pos d, if_pos ((lg_cmp_ge _ _).mpr d)]
    · rw [if_neg d, if_neg (fun z => d ((lg_cmp_ge _ _).mp z))]
theorem F78' {op : Nat} (ho : 10 ≤ op) (ho2 : op ≤ 15) (x y : Int64) : F_78 N (nI op) (if x = y then 0 else if y ≤ x then 1 else -1 : Int32) σ = some (bI (cmpo op x y), σ) := by
  have hop : op = 10 ∨ op = 11 ∨ op = 12 ∨ op = 13 ∨ op = 14 ∨ op = 15 := by omega
  have tri : x < y ∨ x = y ∨ y < x := lg_tri x y
  rcases tri with c | c | c
  · have n1 : ¬ x = y := lg_lt_ne c
    have n2 : ¬ y ≤ x := lg_lt_not_le c
    have n3 : x ≤ y := by rw [Int64.lt_iff_toInt_lt] at c; rw [Int64.le_iff_toInt_le]; omega
    have n4 : ¬ y < x := lg_lt_not c
    rw [if_neg n1, if_neg n2]
    rcases hop with rfl | rfl | rfl | rfl | rfl | rfl <;> simp [F_78, cmpo, n1, n2, n3, n4, c, nI, bI]
  · subst c
    rw [if_pos rfl]
    have n2 : x ≤ x := Int64.le_refl x
    have n4 : ¬ x < x := fun z => lg_lt_not z z
    rcases hop with rfl | rfl | rfl | rfl | rfl | rfl <;> simp [F_78, cmpo, n2, n4, nI, bI]
  · have n1 : ¬ x = y := fun z => lg_lt_ne c z.symm
    have n2 : y ≤ x := by rw [Int64.lt_iff_toInt_lt] at c; rw [Int64.le_iff_toInt_le]; omega
    have n3 : ¬ x ≤ y := lg_lt_not_le c
    have n4 : ¬ x < y := lg_lt_not c
    rw [if_neg n1, if_pos n2]
    rcases hop with rfl | rfl | rfl | rfl | rfl | rfl <;> simp [F_78, cmpo, n1, n2, n3, n4, c, nI, bI]
end MC
