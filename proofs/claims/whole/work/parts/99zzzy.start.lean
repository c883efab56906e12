/-! the reference's compile: begin and end -/
theorem sum_up' {f g : Nat → Nat} {C : Nat} {A : List Nat} (h : ∀ a, a ∉ A → g a = f a) (hC : ∀ a ∈ A, g a ≤ C) : ∀ l : List Nat, (l.map g).sum ≤ (l.map f).sum + (l.filter fun a => decide (a ∈ A)).length * C := by
  intro l
  induction l with
  | nil => exact Nat.zero_le _
  | cons a r ih =>
    rw [List.map_cons, List.map_cons, List.sum_cons, List.sum_cons, List.filter_cons]
    by_cases c : a ∈ A
    · rw [if_pos (decide_eq_true c), List.length_cons, Nat.add_mul]
      have := hC a c
      omega
    · rw [if_neg (by simp [c]), h a c]
      omega
theorem Fr.gcl {I J R : List (Nat × Nat)} {A L : List Nat} {σ σ' : st_S} (h : Fr 0 I J R A L σ σ') {C k : Nat} (hC : ∀ a ∈ A, gN σ' a ≤ C) (hk : (gra.filter fun a => decide (a ∈ A)).length ≤ k) : 16 * gC σ' ≤ 16 * gC σ + k * C := by
  obtain ⟨a1, a2, a3, a4, a5, a6, p1, p2, p3⟩ := h
  have e : Ph σ' ≤ Ph σ + _ := sum_up' (f := gN σ) (g := gN σ') (fun a q => (a4 a q).1) hC gra
  have e2 := Nat.mul_le_mul_right C hk
  generalize (gra.filter fun a => decide (a ∈ A)).length * C = z at *
  generalize k * C = z' at *
  generalize Ph σ' = P' at *
  generalize Ph σ = P at *
  omega
/-- what the reference's lists and tables are like between calls -/
def RZ (σ : st_S) (g : Nat) : Prop := (∀ o ∈ [157, 159, 161, 165, g + 30, g + 32, g + 34], Skx σ o) ∧ (∀ o ∈ [151, 153, 155, g + 1, g + 3, g + 5, g + 7, g + 9, g + 11], 16 ≤ gN σ (o + 1) ∧ gN σ (o + 1) ≤ 40000) ∧ RLn σ g
def s161 (g : Nat) (σ : st_S) : st_S := st_i (st_i (st_i (st_i (st_i (st_i (st_i (st_i (st_i (st_i (st_i (st_i (st_i (σ) (g + 1) 1 0) (g + 3) 1 0) (g + 5) 1 0) (g + 7) 1 0) (g + 9) 1 0) (g + 11) 1 0) g 6 0) g 12 0) g 17 (-1)) g 18 0) (g + 30) 1 0) (g + 32) 1 0) (g + 34) 1 0
section ST
variable {N g x n m : Nat} {σ σ0 σ' : st_S} {D : Nat → Nat → Int32} {w : List (Nat × Nat × Nat)} {l : List Int32} {X : Tx} {E : List En} {fa : Nat → Nat} {I : List It}
theorem RM.rz (h : RM g x l w E σ0 σ n D) : RZ σ g := by
  obtain ⟨⟨b1, b2, b3, b4, b5, b6, b7, b8⟩, h2, h3, h4, h5, h6⟩ := h
  obtain ⟨n1, n2, n3, -⟩ := b4
  refine ⟨fun o ho => ?_, fun o ho => ?_, h2⟩
  · simp only [List.mem_cons, List.not_mem_nil, or_false] at ho
    rcases ho with rfl | rfl | rfl | rfl | rfl | rfl | rfl
    · exact b6
    · exact b7
    · exact b8
    · exact h3
    · exact h4
    · exact h5
    · exact h6
  · have d := fun c hc => b5 c hc
    simp only [List.mem_cons, List.not_mem_nil, or_false] at ho
    rcases ho with rfl | rfl | rfl | rfl | rfl | rfl | rfl | rfl | rfl
    · exact ⟨n1.2.2.1, n1.2.2.2.1⟩
    · exact ⟨n2.2.2.1, n2.2.2.2.1⟩
    · exact ⟨n3.2.2.1, n3.2.2.2.1⟩
    · have q := d 0 (by decide); exact ⟨q.2.2.1, q.2.2.2.1⟩
    · have q := d 1 (by decide); exact ⟨q.2.2.1, q.2.2.2.1⟩
    · have q := d 2 (by decide); exact ⟨q.2.2.1, q.2.2.2.1⟩
    · have q := d 3 (by decide); exact ⟨q.2.2.1, q.2.2.2.1⟩
    · have q := d 4 (by decide); exact ⟨q.2.2.1, q.2.2.2.1⟩
    · have q := d 5 (by decide); exact ⟨q.2.2.1, q.2.2.2.1⟩
theorem RZ.b (h : RZ σ g) : ∀ a ∈ RAf g, gN σ a ≤ 100000 := by
  obtain ⟨h1, h2, a1, a2, a3, a4, a5, a6, a7, a8, a9, a10⟩ := h
  have k1 : ∀ o ∈ [157, 159, 161, 165, g + 30, g + 32, g + 34], gN σ (o + 1) ≤ 100000 := fun o ho => by
    obtain ⟨L, z⟩ := h1 o ho
    exact z.2
  have k2 : ∀ o ∈ [151, 153, 155, g + 1, g + 3, g + 5, g + 7, g + 9, g + 11], gN σ (o + 1) ≤ 100000 := fun o ho => by
    have := (h2 o ho).2
    omega
  intro a ha
  by_cases c1 : g + 13 ≤ a ∧ a ≤ g + 17
  · rw [a1 a c1.1 c1.2]; decide
  by_cases c2 : g + 18 ≤ a ∧ a ≤ g + 21
  · rw [a2 a c2.1 c2.2]; decide
  by_cases c3 : g + 22 ≤ a ∧ a ≤ g + 25
  · rw [a3 a c3.1 c3.2]; decide
  by_cases c4 : g + 26 ≤ a ∧ a ≤ g + 29
  · rw [a4 a c4.1 c4.2]; decide
  by_cases c5 : a = 168
  · rw [c5, a8]; decide
  have : a - 1 + 1 = a ∧ (a - 1 ∈ [157, 159, 161, 165, g + 30, g + 32, g + 34] ∨ a - 1 ∈ [151, 153, 155, g + 1, g + 3, g + 5, g + 7, g + 9, g + 11]) := by
    simp only [RAf, List.mem_cons, List.not_mem_nil, or_false] at ha ⊢
    omega
  obtain ⟨e, z | z⟩ := this
  · rw [← e]; exact k1 _ z
  · rw [← e]; exact k2 _ z
theorem Skx.z {o : Nat} (h : Skx σ o) (h1 : gI σ' o 1 = 0) (hN : gN σ' = gN σ) : Skx σ' o := by
  obtain ⟨L, ⟨-, -, h3, -⟩, h5⟩ := h
  exact ⟨[], ⟨h1, Nat.zero_le _, by rw [hN]; exact h3, fun j hj => absurd hj (Nat.not_lt_zero j)⟩, by rw [hN]; exact h5⟩
theorem nf_0 {o : Nat} {f : Nat → Int32} (h1 : gI σ o 1 = 0) (h : 16 ≤ gN σ (o + 1) ∧ gN σ (o + 1) ≤ 40000) : Nf σ o 0 f := ⟨h1, Nat.zero_le _, h.1, h.2, fun i hi => absurd hi (Nat.not_lt_zero i)⟩
/-- nothing read yet -/
theorem rs_0 (G : RG0 N g x l w σ) (hz : RZ σ g) (h3 : W3 σ w) (hr : Rd σ x l) : ∃ s, F_160 N g x σ = L_160 N g x N 0 s ∧ RS g x l w σ s ([], none, []) 0 (fun _ _ => 0) (fun _ => 0) := by
  have zb := hz.b
  obtain ⟨hg, hx, -⟩ := G
  obtain ⟨s, hs⟩ : ∃ s, st_i (st_i (st_i (st_i (s161 g σ) 151 1 0) 153 1 0) 155 1 0) 66 16 0 = s := ⟨_, rfl⟩
  refine ⟨s, by rw [← hs]; rfl, ?_⟩
  have fr : Fr 0 (RIf g) [] [] [] [] σ s := by
    rw [← hs]
    unfold s161
    iterate 16 refine Fr.t0 ?_ (Fr.i _ _ (by simp [RIf]))
    exact Fr.i _ _ (by simp [RIf])
  have eN : gN s = gN σ := by rw [← hs]; rfl
  have c0 : gI s 66 16 = 0 ∧ gI s 151 1 = 0 ∧ gI s 153 1 = 0 ∧ gI s 155 1 = 0 ∧ gI s (g + 1) 1 = 0 ∧ gI s (g + 3) 1 = 0 ∧ gI s (g + 5) 1 = 0 ∧ gI s (g + 7) 1 = 0 ∧ gI s (g + 9) 1 = 0 ∧ gI s (g + 11) 1 = 0 ∧ gI s (g + 30) 1 = 0 ∧ gI s (g + 32) 1 = 0 ∧ gI s (g + 34) 1 = 0 ∧ gI s g 6 = 0 ∧ gI s g 12 = 0 ∧ gI s g 17 = -1 ∧ gI s g 18 = 0 := by
    rw [← hs]
    rcases hg with rfl | rfl <;> exact ⟨rfl, rfl, rfl, rfl, rfl, rfl, rfl, rfl, rfl, rfl, rfl, rfl, rfl, rfl, rfl, rfl, rfl⟩
  have cI : ∀ o, o = 157 ∨ o = 159 ∨ o = 161 ∨ o = 165 → gI s o 1 = gI σ o 1 := by
    rw [← hs]
    rcases hg with rfl | rfl <;> (intro o ho; rcases ho with rfl | rfl | rfl | rfl <;> rfl)
  have eE : gE s = gE σ := by rw [← hs]; rfl
  have sx : ∀ o, o = 157 ∨ o = 159 ∨ o = 161 ∨ o = 165 → Skx σ o → Skx s o := fun o ho h => by
    obtain ⟨L, ⟨y1, y2, y3, y4⟩, y5⟩ := h
    exact ⟨L, ⟨(cI o ho).trans y1, by rw [eN]; exact y2, by rw [eN]; exact y3, by rw [eE]; exact y4⟩, by rw [eN]; exact y5⟩
  obtain ⟨z0, z1, z2, z3, z4, z5, z6, z7, z8, z9, z10, z11, z12, z13, z14, z15, z16⟩ := c0
  obtain ⟨k1, k2, kl⟩ := hz
  have kb : ∀ o ∈ [151, 153, 155, g + 1, g + 3, g + 5, g + 7, g + 9, g + 11], 16 ≤ gN s (o + 1) ∧ gN s (o + 1) ≤ 40000 := fun o ho => by rw [eN]; exact k2 o ho
  have w3 : W3 s w := by
    refine h3.fr fr (fun a y1 y2 => ?_) (fun a _ _ => by simp)
    simp only [RIf, List.mem_cons, List.not_mem_nil, or_false, Prod.mk.injEq]
    omega
  have rd : Rd s x l := by
    refine hr.fr fr ?_ (by simp)
    simp only [RIf, List.mem_cons, List.not_mem_nil, or_false, Prod.mk.injEq]
    omega
  have ds : DS s g 0 (fun _ _ => 0) := fun c hc => by
    have : c = 0 ∨ c = 1 ∨ c = 2 ∨ c = 3 ∨ c = 4 ∨ c = 5 := by omega
    rcases this with rfl | rfl | rfl | rfl | rfl | rfl
    · exact nf_0 z4 (kb (g + 1) (by simp))
    · exact nf_0 z5 (kb (g + 3) (by simp))
    · exact nf_0 z6 (kb (g + 5) (by simp))
    · exact nf_0 z7 (kb (g + 7) (by simp))
    · exact nf_0 z8 (kb (g + 9) (by simp))
    · exact nf_0 z9 (kb (g + 11) (by simp))
  have ln : RLn s g := kl.eq eN
  have nr : NR s g [] := ⟨nf_0 z1 (kb 151 (by simp)), nf_0 z2 (kb 153 (by simp)), nf_0 z3 (kb 155 (by simp)), ln.1 _ (by omega) (by omega), ln.2.1 _ (by omega) (by omega), by decide, fun j hj => absurd hj (Nat.not_lt_zero j)⟩
  have rb : RB g σ s := ⟨fr.mo (fun _ q => q) (fun _ q => q) (fun _ q => q) (by simp) (by simp), by rw [eN]; exact zb⟩
  have rm : RM g x l w [] σ s 0 (fun _ _ => 0) := ⟨⟨rb, w3, rd, nr, ds, sx 157 (by decide) (k1 157 (by simp)), sx 159 (by decide) (k1 159 (by simp)), sx 161 (by decide) (k1 161 (by simp))⟩, ln, sx 165 (by decide) (k1 165 (by simp)), (k1 (g + 30) (by simp)).z z10 eN, (k1 (g + 32) (by simp)).z z11 eN, (k1 (g + 34) (by simp)).z z12 eN⟩
  have no : ∀ j, ¬ j < ([] : List En).length := fun j => Nat.not_lt_zero j
  have ns : NS s g 0 l w [] (fun _ => 0) (fun _ _ => 0) := ⟨fun j hj => absurd hj (no j), fun j hj => absurd hj (no j), fun j hj => absurd hj (no j), fun j hj => absurd hj (no j), fun i j _ hj => absurd hj (no j), fun i j _ hj => absurd hj (no j), fun i j _ hj => absurd hj (no j)⟩
  refine ⟨⟨rm, ns, fun j hj => absurd hj (no j), ⟨fun j hj => absurd hj (no j), fun i j hi => absurd hi (no i)⟩, z15, trivial, Nat.le_refl _⟩, z0, z13, z14, z16, by decide, by decide, by decide, z10, z11, z12⟩
/-- the items are read -/
theorem F160 (G : RG0 N g x l w σ) (hz : RZ σ g) (h3 : W3 σ w) (hr : Rd σ x l) (hI : PI w I m) (hm : kK w m = 0) (hl : m < w.length) : match txt l w I m with
    | .inl e => ∃ σ' E n D, F_160 N g x σ = some σ' ∧ gI σ' 66 16 = nI e.1 ∧ gI σ' 66 17 = nI e.2 ∧ RM g x l w E σ σ' n D
    | .inr X => ∃ σ' n D fa, F_160 N g x σ = some σ' ∧ RS g x l w σ σ' X n D fa ∧ n ≤ m := by
  obtain ⟨s, e, hs⟩ := rs_0 G hz h3 hr
  have K := itr_all G hs hI
  have lI := (PI_len G h3 hI).1
  have hN : 100000 < N := G.2.2.1
  have hw : w.length ≤ 16400 := G.2.2.2.2.1
  unfold txt
  rw [e]
  cases hi : itA l w I with
  | inl er =>
    rw [hi] at K
    rw [sbd_l]
    obtain ⟨σ', E, n, D, k1, k2⟩ := K
    refine ⟨σ', E, n, D, ?_, k2⟩
    have := k1 (N - I.length - 1)
    rw [show N - I.length - 1 + I.length + 1 = N by omega] at this
    exact this
  | inr X =>
    rw [hi] at K
    rw [sbd_r]
    obtain ⟨s1, n, D, fa, k1, k2, k3⟩ := K
    have e1 : L_160 N g x N 0 s = J_160_190 N g x (nI m) s1 := by
      have := k1 (N - I.length - 1 + 1)
      rw [show N - I.length - 1 + 1 + I.length = N by omega] at this
      rw [this]
      unfold L_160
      rw [if_pos k2.2.1, F162 k2.1.1.1.2.1 hl, ob_some]
      dsimp only
      rw [hm, if_pos (by decide)]
    rw [e1]
    unfold J_160_190
    rw [if_pos k2.2.1]
    obtain ⟨⟨r1, r2, r3, r4, r5, r6, r7⟩, hf, hc⟩ := k2
    cases htg : X.2.1 with
    | none =>
      rw [htg] at r5
      have r5 : gI s1 g 17 = -1 := r5
      rw [r5, if_neg (by decide)]
      exact RFl.st (f := 10) G r1 hl
    | some T =>
      have r5' := r5
      rw [htg] at r5'
      obtain ⟨a, q1, q2⟩ := r5'
      have : a < 20000 := by have := q2.2.2.2.1; have := rln_pos T; omega
      dsimp only
      rw [q1, if_pos (show (0 : Int32) ≤ nI a from (nI_lei (a := 0) (b := a) (by decide) (by omega)).mpr (Nat.zero_le _))]
      exact ⟨s1, n, D, fa, rfl, ⟨⟨r1, r2, r3, r4, r5, r6, r7⟩, hf, hc⟩, k3⟩
end ST
