/-! the class's machine: work, and the steps of its loop -/
section MD
variable {N : Nat} {σ : st_S} {t n : Nat} {M : Nat → Nat → Int32}
/-- work does this -/
def Wk (N t n : Nat) (σ : st_S) (M : Nat → Nat → Int32) (i op : Nat) (v : Int64 × Int64) : Prop := ∃ σ' M', F_76 N t (nI i) (nI op) σ = some σ' ∧ Nx t n σ M i v σ' M'
theorem no_t {i op : Nat} (e0 : M i 0 = nI op) (ho : op < 40) (h : op ≠ 2 ∧ (op < 10 ∨ 18 < op)) : ¬ (M i 0 = 2 ∨ ∃ op, 10 ≤ op ∧ op ≤ 18 ∧ M i 0 = nI op) := by
  rw [e0]
  rintro (z | ⟨o, z1, z2, z3⟩)
  · have := (nI_eq (b := 2) (by omega) (by decide)).mp z
    omega
  · have := (nI_eq (by omega) (by omega)).mp z3
    omega
theorem no_u {i op : Nat} (e0 : M i 0 = nI op) (ho : op < 40) (h : op ≠ 2 ∧ (op < 4 ∨ 18 < op)) : ¬ (M i 0 = 2 ∨ ∃ op, 4 ≤ op ∧ op ≤ 18 ∧ M i 0 = nI op) := by
  rw [e0]
  rintro (z | ⟨o, z1, z2, z3⟩)
  · have := (nI_eq (b := 2) (by omega) (by decide)).mp z
    omega
  · have := (nI_eq (by omega) (by omega)).mp z3
    omega
theorem wk0 (q : CS σ t n M) {i : Nat} (hi : i < n) : F_76 N t (nI i) (nI 0) σ = some σ := by
  have a4 : aB (nI i) (gN σ (t + 4)) := q.a (c := 2) (by decide) hi
  unfold F_76
  rw [if_pos a4, if_neg (show ¬ nI 0 = 2 by decide), if_neg (show ¬ nI 0 = 3 by decide), if_neg (show ¬ nI 0 = 9 by decide), if_neg (show ¬ nI 0 = 16 by decide), if_neg (show ¬ nI 0 = 17 by decide), if_neg (show ¬ nI 0 = 18 by decide), if_neg (show ¬ nI 0 = 19 by decide), if_neg (show ¬ nI 0 = 20 by decide), if_neg (show ¬ nI 0 = 21 by decide), if_neg (show ¬ nI 0 = 22 by decide), if_pos (by decide)]
theorem wk2 (ht : t = 4 ∨ t = 20) (q : CS σ t n M) {i x : Nat} {z : Int32} (hi : i < n) (e2 : M i 2 = nI x) (hx : x < 12) (h43 : gN σ 43 = 12) (hz : gE σ 43 x = z) (h7 : M i 7 = 1) (b : Int64) (hb : bl1 b = 1) (h5 : M i 5 = kvv b) : Wk N t n σ M i 2 (z.toInt64, b) := by
  have a4 : aB (nI i) (gN σ (t + 4)) := q.a (c := 2) (by decide) hi
  have a8 : aB (nI i) (gN σ (t + 8)) := q.a (c := 6) (by decide) hi
  have g4 : gE σ (t + 4) (nI i).toNatClampNeg = nI x := (q.g (c := 2) (by decide) hi).trans e2
  have cl : (nI i).toNatClampNeg = i := nI_clamp (by have := q.2.1; omega)
  have clx : (nI x).toNatClampNeg = x := nI_clamp (by omega)
  have a43 : aB (nI x) (gN σ 43) := by rw [h43]; exact aB_nI hx (by decide)
  refine ⟨_, _, ?_, Nx.one ht q (x := z) (lg_l2i_i2l z).symm (h7.trans hb.symm) h5⟩
  unfold F_76
  rw [if_pos a4, if_pos (show nI 2 = 2 from rfl)]
  simp only [g4, if_pos a43, if_pos a8, clx, hz]
  simp only [cl]
theorem wk3 (ht : t = 4 ∨ t = 20) (q : CS σ t n M) {i x fe ro : Nat} {v : Int64 × Int64} (hi : i < n) (e0 : M i 0 = nI 3) (e2 : M i 2 = nI x) (hx : x < 60) (h14 : gN σ (t + 14) = 60) (hz : gE σ (t + 14) x = nI fe) (hf : fe < n) (ef : M fe 2 = nI ro) (hr : ro < n) (hv : Va M ro v) : Wk N t n σ M i 3 v := by
  have a4 : aB (nI i) (gN σ (t + 4)) := q.a (c := 2) (by decide) hi
  have g4 : gE σ (t + 4) (nI i).toNatClampNeg = nI x := (q.g (c := 2) (by decide) hi).trans e2
  have clx : (nI x).toNatClampNeg = x := nI_clamp (by omega)
  have a14 : aB (nI x) (gN σ (t + 14)) := by rw [h14]; exact aB_nI hx (by decide)
  have f4 : aB (nI fe) (gN σ (t + 4)) := q.a (c := 2) (by decide) hf
  have gf : gE σ (t + 4) (nI fe).toNatClampNeg = nI ro := (q.g (c := 2) (by decide) hf).trans ef
  obtain ⟨c1, c2⟩ := Nx.cp (N := N) ht q hi hr hv (no_u e0 (by decide) (by decide))
  refine ⟨_, _, ?_, c2⟩
  unfold F_76
  rw [if_pos a4, if_neg (show ¬ nI 3 = 2 by decide), if_pos (show nI 3 = 3 from rfl)]
  simp only [g4, if_pos a14, clx, hz, if_pos f4, gf]
  rw [c1, ob_some]
section UNA
variable {i x : Nat} {u : Int64 × Int64}
theorem wk9 (ht : t = 4 ∨ t = 20) (q : CS σ t n M) (hi : i < n) (e0 : M i 0 = nI 9) (e2 : M i 2 = nI x) (hx : x < n) (hu : Va M x u) (h5 : M i 5 = kvv u.2) : Wk N t n σ M i 9 (vu 9 u) := by
  have a4 : aB (nI i) (gN σ (t + 4)) := q.a (c := 2) (by decide) hi
  have a8 : aB (nI i) (gN σ (t + 8)) := q.a (c := 6) (by decide) hi
  have a9 : aB (nI i) (gN σ (t + 9)) := q.a (c := 7) (by decide) hi
  have x8 : aB (nI x) (gN σ (t + 8)) := q.a (c := 6) (by decide) hx
  have x9 : aB (nI x) (gN σ (t + 9)) := q.a (c := 7) (by decide) hx
  have g4 : gE σ (t + 4) (nI i).toNatClampNeg = nI x := (q.g (c := 2) (by decide) hi).trans e2
  have gx8 : gE σ (t + 8) (nI x).toNatClampNeg = M x 6 := q.g (c := 6) (by decide) hx
  have gx9 : gE σ (t + 9) (nI x).toNatClampNeg = M x 7 := q.g (c := 7) (by decide) hx
  have cl : (nI i).toNatClampNeg = i := nI_clamp (by have := q.2.1; omega)
  have e : (-(M x 6)) = (vu 9 u).1.toInt32 := by
    show _ = (-u.1).toInt32
    rw [hu.1, Int64.toInt32_neg]
  refine ⟨_, _, ?_, Nx.two ht q e (show M x 7 = bl1 (vu 9 u).2 from hu.2.1) h5 (no_t e0 (by decide) (by decide))⟩
  unfold F_76
  rw [if_pos a4, if_neg (show ¬ nI 9 = 2 by decide), if_neg (show ¬ nI 9 = 3 by decide), if_pos (show nI 9 = 9 from rfl)]
  simp only [g4, if_pos x8, if_pos a8, if_pos x9, if_pos a9, gx8, gx9]
  simp only [cl]
theorem wk16 (ht : t = 4 ∨ t = 20) (q : CS σ t n M) (hi : i < n) (e2 : M i 2 = nI x) (hx : x < n) (hu : Va M x u) (k : okv 2 u) (h7 : M i 7 = 1) (h5 : M i 5 = 2) : Wk N t n σ M i 16 (vu 16 u) := by
  have a4 : aB (nI i) (gN σ (t + 4)) := q.a (c := 2) (by decide) hi
  have a8 : aB (nI i) (gN σ (t + 8)) := q.a (c := 6) (by decide) hi
  have x8 : aB (nI x) (gN σ (t + 8)) := q.a (c := 6) (by decide) hx
  have g4 : gE σ (t + 4) (nI i).toNatClampNeg = nI x := (q.g (c := 2) (by decide) hi).trans e2
  have gx8 : gE σ (t + 8) (nI x).toNatClampNeg = M x 6 := q.g (c := 6) (by decide) hx
  have cl : (nI i).toNatClampNeg = i := nI_clamp (by have := q.2.1; omega)
  have e : (1 - M x 6) = (vu 16 u).1.toInt32 := by
    rcases (hu.tru k).2 with ⟨z1, z2⟩ | ⟨z1, z2⟩ <;> rw [z1, z2] <;> rfl
  refine ⟨_, _, ?_, Nx.one ht q e h7 h5⟩
  unfold F_76
  rw [if_pos a4, if_neg (show ¬ nI 16 = 2 by decide), if_neg (show ¬ nI 16 = 3 by decide), if_neg (show ¬ nI 16 = 9 by decide), if_pos (show nI 16 = 16 from rfl)]
  simp only [g4, if_pos x8, if_pos a8, gx8]
  simp only [cl]
theorem wk22 (ht : t = 4 ∨ t = 20) (q : CS σ t n M) (hi : i < n) (e0 : M i 0 = nI 22) (e2 : M i 2 = nI x) (hx : x < n) (hu : Va M x u) : Wk N t n σ M i 22 u := by
  have a4 : aB (nI i) (gN σ (t + 4)) := q.a (c := 2) (by decide) hi
  have g4 : gE σ (t + 4) (nI i).toNatClampNeg = nI x := (q.g (c := 2) (by decide) hi).trans e2
  obtain ⟨c1, c2⟩ := Nx.cp (N := N) ht q hi hx hu (no_u e0 (by decide) (by decide))
  refine ⟨_, _, ?_, c2⟩
  unfold F_76
  rw [if_pos a4, if_neg (show ¬ nI 22 = 2 by decide), if_neg (show ¬ nI 22 = 3 by decide), if_neg (show ¬ nI 22 = 9 by decide), if_neg (show ¬ nI 22 = 16 by decide), if_neg (show ¬ nI 22 = 17 by decide), if_neg (show ¬ nI 22 = 18 by decide), if_neg (show ¬ nI 22 = 19 by decide), if_neg (show ¬ nI 22 = 20 by decide), if_neg (show ¬ nI 22 = 21 by decide), if_pos (show nI 22 = 22 from rfl)]
  simp only [g4]
  rw [c1, ob_some]
end UNA
section BNA
variable {i x y : Nat} {u v : Int64 × Int64}
/-- and, or: the first decides -/
theorem wk17f (ht : t = 4 ∨ t = 20) (q : CS σ t n M) (hi : i < n) (e2 : M i 2 = nI x) (hx : x < n) (h6 : ¬ M x 6 = 1) (h7 : M i 7 = 1) (h5 : M i 5 = 2) : Wk N t n σ M i 17 (0, 0) := by
  have a4 : aB (nI i) (gN σ (t + 4)) := q.a (c := 2) (by decide) hi
  have a8 : aB (nI i) (gN σ (t + 8)) := q.a (c := 6) (by decide) hi
  have x8 : aB (nI x) (gN σ (t + 8)) := q.a (c := 6) (by decide) hx
  have g4 : gE σ (t + 4) (nI i).toNatClampNeg = nI x := (q.g (c := 2) (by decide) hi).trans e2
  have gx8 : gE σ (t + 8) (nI x).toNatClampNeg = M x 6 := q.g (c := 6) (by decide) hx
  have cl : (nI i).toNatClampNeg = i := nI_clamp (by have := q.2.1; omega)
  refine ⟨_, _, ?_, Nx.one ht q (x := 0) (v := (0, 0)) rfl h7 h5⟩
  unfold F_76
  rw [if_pos a4, if_neg (show ¬ nI 17 = 2 by decide), if_neg (show ¬ nI 17 = 3 by decide), if_neg (show ¬ nI 17 = 9 by decide), if_neg (show ¬ nI 17 = 16 by decide), if_pos (show nI 17 = 17 from rfl)]
  simp only [g4, if_pos x8, gx8, if_neg h6, if_pos a8]
  simp only [cl]
theorem wk18t (ht : t = 4 ∨ t = 20) (q : CS σ t n M) (hi : i < n) (e2 : M i 2 = nI x) (hx : x < n) (h6 : M x 6 = 1) (h7 : M i 7 = 1) (h5 : M i 5 = 2) : Wk N t n σ M i 18 (1, 0) := by
  have a4 : aB (nI i) (gN σ (t + 4)) := q.a (c := 2) (by decide) hi
  have a8 : aB (nI i) (gN σ (t + 8)) := q.a (c := 6) (by decide) hi
  have x8 : aB (nI x) (gN σ (t + 8)) := q.a (c := 6) (by decide) hx
  have g4 : gE σ (t + 4) (nI i).toNatClampNeg = nI x := (q.g (c := 2) (by decide) hi).trans e2
  have gx8 : gE σ (t + 8) (nI x).toNatClampNeg = M x 6 := q.g (c := 6) (by decide) hx
  have cl : (nI i).toNatClampNeg = i := nI_clamp (by have := q.2.1; omega)
  refine ⟨_, _, ?_, Nx.one ht q (x := 1) (v := (1, 0)) rfl h7 h5⟩
  unfold F_76
  rw [if_pos a4, if_neg (show ¬ nI 18 = 2 by decide), if_neg (show ¬ nI 18 = 3 by decide), if_neg (show ¬ nI 18 = 9 by decide), if_neg (show ¬ nI 18 = 16 by decide), if_neg (show ¬ nI 18 = 17 by decide), if_pos (show nI 18 = 18 from rfl)]
  simp only [g4, if_pos x8, gx8, if_pos h6, if_pos a8]
  simp only [cl]
theorem wk17t (ht : t = 4 ∨ t = 20) (q : CS σ t n M) (hi : i < n) (e2 : M i 2 = nI x) (e3 : M i 3 = nI y) (hx : x < n) (hy : y < n) (h6 : M x 6 = 1) (hv : Va M y v) (k : okv 2 v) (h7 : M i 7 = 1) (h5 : M i 5 = 2) : Wk N t n σ M i 17 v := by
  have a4 : aB (nI i) (gN σ (t + 4)) := q.a (c := 2) (by decide) hi
  have a5 : aB (nI i) (gN σ (t + 5)) := q.a (c := 3) (by decide) hi
  have a8 : aB (nI i) (gN σ (t + 8)) := q.a (c := 6) (by decide) hi
  have x8 : aB (nI x) (gN σ (t + 8)) := q.a (c := 6) (by decide) hx
  have y8 : aB (nI y) (gN σ (t + 8)) := q.a (c := 6) (by decide) hy
  have g4 : gE σ (t + 4) (nI i).toNatClampNeg = nI x := (q.g (c := 2) (by decide) hi).trans e2
  have g5 : gE σ (t + 5) (nI i).toNatClampNeg = nI y := (q.g (c := 3) (by decide) hi).trans e3
  have gx8 : gE σ (t + 8) (nI x).toNatClampNeg = M x 6 := q.g (c := 6) (by decide) hx
  have gy8 : gE σ (t + 8) (nI y).toNatClampNeg = M y 6 := q.g (c := 6) (by decide) hy
  have cl : (nI i).toNatClampNeg = i := nI_clamp (by have := q.2.1; omega)
  refine ⟨_, _, ?_, Nx.one ht q hv.1 (h7.trans ((hv.tru k).1.symm.trans hv.2.1)) (h5.trans (kvv_k k).symm)⟩
  unfold F_76
  rw [if_pos a4, if_neg (show ¬ nI 17 = 2 by decide), if_neg (show ¬ nI 17 = 3 by decide), if_neg (show ¬ nI 17 = 9 by decide), if_neg (show ¬ nI 17 = 16 by decide), if_pos (show nI 17 = 17 from rfl)]
  simp only [g4, g5, if_pos x8, gx8, if_pos h6, if_pos a5, if_pos y8, gy8, if_pos a8]
  simp only [cl]
theorem wk18f (ht : t = 4 ∨ t = 20) (q : CS σ t n M) (hi : i < n) (e2 : M i 2 = nI x) (e3 : M i 3 = nI y) (hx : x < n) (hy : y < n) (h6 : ¬ M x 6 = 1) (hv : Va M y v) (k : okv 2 v) (h7 : M i 7 = 1) (h5 : M i 5 = 2) : Wk N t n σ M i 18 v := by
  have a4 : aB (nI i) (gN σ (t + 4)) := q.a (c := 2) (by decide) hi
  have a5 : aB (nI i) (gN σ (t + 5)) := q.a (c := 3) (by decide) hi
  have a8 : aB (nI i) (gN σ (t + 8)) := q.a (c := 6) (by decide) hi
  have x8 : aB (nI x) (gN σ (t + 8)) := q.a (c := 6) (by decide) hx
  have y8 : aB (nI y) (gN σ (t + 8)) := q.a (c := 6) (by decide) hy
  have g4 : gE σ (t + 4) (nI i).toNatClampNeg = nI x := (q.g (c := 2) (by decide) hi).trans e2
  have g5 : gE σ (t + 5) (nI i).toNatClampNeg = nI y := (q.g (c := 3) (by decide) hi).trans e3
  have gx8 : gE σ (t + 8) (nI x).toNatClampNeg = M x 6 := q.g (c := 6) (by decide) hx
  have gy8 : gE σ (t + 8) (nI y).toNatClampNeg = M y 6 := q.g (c := 6) (by decide) hy
  have cl : (nI i).toNatClampNeg = i := nI_clamp (by have := q.2.1; omega)
  refine ⟨_, _, ?_, Nx.one ht q hv.1 (h7.trans ((hv.tru k).1.symm.trans hv.2.1)) (h5.trans (kvv_k k).symm)⟩
  unfold F_76
  rw [if_pos a4, if_neg (show ¬ nI 18 = 2 by decide), if_neg (show ¬ nI 18 = 3 by decide), if_neg (show ¬ nI 18 = 9 by decide), if_neg (show ¬ nI 18 = 16 by decide), if_neg (show ¬ nI 18 = 17 by decide), if_pos (show nI 18 = 18 from rfl)]
  simp only [g4, g5, if_pos x8, gx8, if_neg h6, if_pos a5, if_pos y8, gy8, if_pos a8]
  simp only [cl]
theorem wk19t (ht : t = 4 ∨ t = 20) (q : CS σ t n M) (hi : i < n) (e0 : M i 0 = nI 19) (e2 : M i 2 = nI x) (e3 : M i 3 = nI y) (hx : x < n) (hy : y < n) (h6 : M x 6 = 1) (hv : Va M y v) : Wk N t n σ M i 19 v := by
  have a4 : aB (nI i) (gN σ (t + 4)) := q.a (c := 2) (by decide) hi
  have a5 : aB (nI i) (gN σ (t + 5)) := q.a (c := 3) (by decide) hi
  have x8 : aB (nI x) (gN σ (t + 8)) := q.a (c := 6) (by decide) hx
  have g4 : gE σ (t + 4) (nI i).toNatClampNeg = nI x := (q.g (c := 2) (by decide) hi).trans e2
  have g5 : gE σ (t + 5) (nI i).toNatClampNeg = nI y := (q.g (c := 3) (by decide) hi).trans e3
  have gx8 : gE σ (t + 8) (nI x).toNatClampNeg = M x 6 := q.g (c := 6) (by decide) hx
  obtain ⟨c1, c2⟩ := Nx.cp (N := N) ht q hi hy hv (no_u e0 (by decide) (by decide))
  refine ⟨_, _, ?_, c2⟩
  unfold F_76
  rw [if_pos a4, if_neg (show ¬ nI 19 = 2 by decide), if_neg (show ¬ nI 19 = 3 by decide), if_neg (show ¬ nI 19 = 9 by decide), if_neg (show ¬ nI 19 = 16 by decide), if_neg (show ¬ nI 19 = 17 by decide), if_neg (show ¬ nI 19 = 18 by decide), if_pos (show nI 19 = 19 from rfl)]
  simp only [g4, g5, if_pos x8, gx8, if_pos h6, if_pos a5]
  rw [c1, ob_some]
theorem wk19f (ht : t = 4 ∨ t = 20) (q : CS σ t n M) (hi : i < n) (e0 : M i 0 = nI 19) (e2 : M i 2 = nI x) (e3 : M i 4 = nI y) (hx : x < n) (hy : y < n) (h6 : ¬ M x 6 = 1) (hv : Va M y v) : Wk N t n σ M i 19 v := by
  have a4 : aB (nI i) (gN σ (t + 4)) := q.a (c := 2) (by decide) hi
  have a5 : aB (nI i) (gN σ (t + 6)) := q.a (c := 4) (by decide) hi
  have x8 : aB (nI x) (gN σ (t + 8)) := q.a (c := 6) (by decide) hx
  have g4 : gE σ (t + 4) (nI i).toNatClampNeg = nI x := (q.g (c := 2) (by decide) hi).trans e2
  have g5 : gE σ (t + 6) (nI i).toNatClampNeg = nI y := (q.g (c := 4) (by decide) hi).trans e3
  have gx8 : gE σ (t + 8) (nI x).toNatClampNeg = M x 6 := q.g (c := 6) (by decide) hx
  obtain ⟨c1, c2⟩ := Nx.cp (N := N) ht q hi hy hv (no_u e0 (by decide) (by decide))
  refine ⟨_, _, ?_, c2⟩
  unfold F_76
  rw [if_pos a4, if_neg (show ¬ nI 19 = 2 by decide), if_neg (show ¬ nI 19 = 3 by decide), if_neg (show ¬ nI 19 = 9 by decide), if_neg (show ¬ nI 19 = 16 by decide), if_neg (show ¬ nI 19 = 17 by decide), if_neg (show ¬ nI 19 = 18 by decide), if_pos (show nI 19 = 19 from rfl)]
  simp only [g4, g5, if_pos x8, gx8, if_neg h6, if_pos a5]
  rw [c1, ob_some]
theorem wk20 (ht : t = 4 ∨ t = 20) (q : CS σ t n M) (hi : i < n) (e0 : M i 0 = nI 20) (e2 : M i 2 = nI x) (e3 : M i 3 = nI y) (hx : x < n) (hy : y < n) (hu : Va M x u) (hv : Va M y v) (k1 : okv 1 u) (k2 : okv 1 v) : Wk N t n σ M i 20 (if v.1 * u.2 < u.1 * v.2 then v else u) := by
  have a4 : aB (nI i) (gN σ (t + 4)) := q.a (c := 2) (by decide) hi
  have a5 : aB (nI i) (gN σ (t + 5)) := q.a (c := 3) (by decide) hi
  have g4 : gE σ (t + 4) (nI i).toNatClampNeg = nI x := (q.g (c := 2) (by decide) hi).trans e2
  have g5 : gE σ (t + 5) (nI i).toNatClampNeg = nI y := (q.g (c := 3) (by decide) hi).trans e3
  have f77 := F77' (N := N) q hi hx hy e2 e3 hu hv k1 k2
  have nu : nb u.2 = u.2 := if_neg (fun z => by have := (okv1.mp k1).2.1; rw [z] at this; exact absurd this (by decide))
  have nvv : nb v.2 = v.2 := if_neg (fun z => by have := (okv1.mp k2).2.1; rw [z] at this; exact absurd this (by decide))
  rw [nu, nvv] at f77
  obtain ⟨c1, c2⟩ := Nx.cp (N := N) ht q hi hx hu (no_u e0 (by decide) (by decide))
  obtain ⟨d1, d2⟩ := Nx.cp (N := N) ht q hi hy hv (no_u e0 (by decide) (by decide))
  have f76 : F_76 N t (nI i) (nI 20) σ = if v.1 * u.2 < u.1 * v.2 then F_62 N t (nI y) (nI i) σ else F_62 N t (nI x) (nI i) σ := by
    unfold F_76
    rw [if_pos a4, if_neg (show ¬ nI 20 = 2 by decide), if_neg (show ¬ nI 20 = 3 by decide), if_neg (show ¬ nI 20 = 9 by decide), if_neg (show ¬ nI 20 = 16 by decide), if_neg (show ¬ nI 20 = 17 by decide), if_neg (show ¬ nI 20 = 18 by decide), if_neg (show ¬ nI 20 = 19 by decide), if_pos (show nI 20 = 20 from rfl)]
    rw [f77, ob_some]
    simp only [g4, if_pos a5, g5]
    rw [c1, d1, ob_some, ob_some]
    rcases lg_tri (u.1 * v.2) (v.1 * u.2) with c | c | c
    · have n1 : ¬ u.1 * v.2 = v.1 * u.2 := lg_lt_ne c
      have n2 : ¬ v.1 * u.2 ≤ u.1 * v.2 := lg_lt_not_le c
      have n3 : ¬ v.1 * u.2 < u.1 * v.2 := lg_lt_not c
      rw [if_neg n1, if_neg n2]
      rw [if_neg (by decide), if_neg n3]
    · have n3 : ¬ v.1 * u.2 < u.1 * v.2 := fun z => by rw [c] at z; exact lg_lt_not z z
      have n4 : ¬ u.1 * v.2 < v.1 * u.2 := fun z => by rw [c] at z; exact lg_lt_not z z
      rw [if_pos c]
      rw [if_neg (by decide), if_neg n3]
    · have n1 : ¬ u.1 * v.2 = v.1 * u.2 := fun z => lg_lt_ne c z.symm
      have n2 : v.1 * u.2 ≤ u.1 * v.2 := by rw [Int64.lt_iff_toInt_lt] at c; rw [Int64.le_iff_toInt_le]; omega
      have n4 : ¬ u.1 * v.2 < v.1 * u.2 := lg_lt_not c
      rw [if_neg n1, if_pos n2]
      rw [if_pos (by decide), if_pos c]
  by_cases c : v.1 * u.2 < u.1 * v.2
  · rw [if_pos c] at f76 ⊢
    exact ⟨_, _, f76.trans d1, d2⟩
  · rw [if_neg c] at f76 ⊢
    exact ⟨_, _, f76.trans c1, c2⟩
theorem wk21 (ht : t = 4 ∨ t = 20) (q : CS σ t n M) (hi : i < n) (e0 : M i 0 = nI 21) (e2 : M i 2 = nI x) (e3 : M i 3 = nI y) (hx : x < n) (hy : y < n) (hu : Va M x u) (hv : Va M y v) (k1 : okv 1 u) (k2 : okv 1 v) : Wk N t n σ M i 21 (if u.1 * v.2 < v.1 * u.2 then v else u) := by
  have a4 : aB (nI i) (gN σ (t + 4)) := q.a (c := 2) (by decide) hi
  have a5 : aB (nI i) (gN σ (t + 5)) := q.a (c := 3) (by decide) hi
  have g4 : gE σ (t + 4) (nI i).toNatClampNeg = nI x := (q.g (c := 2) (by decide) hi).trans e2
  have g5 : gE σ (t + 5) (nI i).toNatClampNeg = nI y := (q.g (c := 3) (by decide) hi).trans e3
  have f77 := F77' (N := N) q hi hx hy e2 e3 hu hv k1 k2
  have nu : nb u.2 = u.2 := if_neg (fun z => by have := (okv1.mp k1).2.1; rw [z] at this; exact absurd this (by decide))
  have nvv : nb v.2 = v.2 := if_neg (fun z => by have := (okv1.mp k2).2.1; rw [z] at this; exact absurd this (by decide))
  rw [nu, nvv] at f77
  obtain ⟨c1, c2⟩ := Nx.cp (N := N) ht q hi hx hu (no_u e0 (by decide) (by decide))
  obtain ⟨d1, d2⟩ := Nx.cp (N := N) ht q hi hy hv (no_u e0 (by decide) (by decide))
  have f76 : F_76 N t (nI i) (nI 21) σ = if u.1 * v.2 < v.1 * u.2 then F_62 N t (nI y) (nI i) σ else F_62 N t (nI x) (nI i) σ := by
    unfold F_76
    rw [if_pos a4, if_neg (show ¬ nI 21 = 2 by decide), if_neg (show ¬ nI 21 = 3 by decide), if_neg (show ¬ nI 21 = 9 by decide), if_neg (show ¬ nI 21 = 16 by decide), if_neg (show ¬ nI 21 = 17 by decide), if_neg (show ¬ nI 21 = 18 by decide), if_neg (show ¬ nI 21 = 19 by decide), if_neg (show ¬ nI 21 = 20 by decide), if_pos (show nI 21 = 21 from rfl)]
    rw [f77, ob_some]
    simp only [g4, if_pos a5, g5]
    rw [c1, d1, ob_some, ob_some]
    rcases lg_tri (u.1 * v.2) (v.1 * u.2) with c | c | c
    · have n1 : ¬ u.1 * v.2 = v.1 * u.2 := lg_lt_ne c
      have n2 : ¬ v.1 * u.2 ≤ u.1 * v.2 := lg_lt_not_le c
      have n3 : ¬ v.1 * u.2 < u.1 * v.2 := lg_lt_not c
      rw [if_neg n1, if_neg n2]
      rw [if_pos (by decide), if_pos c]
    · have n3 : ¬ v.1 * u.2 < u.1 * v.2 := fun z => by rw [c] at z; exact lg_lt_not z z
      have n4 : ¬ u.1 * v.2 < v.1 * u.2 := fun z => by rw [c] at z; exact lg_lt_not z z
      rw [if_pos c]
      rw [if_neg (by decide), if_neg n4]
    · have n1 : ¬ u.1 * v.2 = v.1 * u.2 := fun z => lg_lt_ne c z.symm
      have n2 : v.1 * u.2 ≤ u.1 * v.2 := by rw [Int64.lt_iff_toInt_lt] at c; rw [Int64.le_iff_toInt_le]; omega
      have n4 : ¬ u.1 * v.2 < v.1 * u.2 := lg_lt_not c
      rw [if_neg n1, if_pos n2]
      rw [if_neg (by decide), if_neg n4]
  by_cases c : u.1 * v.2 < v.1 * u.2
  · rw [if_pos c] at f76 ⊢
    exact ⟨_, _, f76.trans d1, d2⟩
  · rw [if_neg c] at f76 ⊢
    exact ⟨_, _, f76.trans c1, c2⟩
theorem wkc (ht : t = 4 ∨ t = 20) (q : CS σ t n M) {op ku kv : Nat} (hi : i < n) (ho : 10 ≤ op) (ho2 : op ≤ 15) (e2 : M i 2 = nI x) (e3 : M i 3 = nI y) (hx : x < n) (hy : y < n) (hu : Va M x u) (hv : Va M y v) (k1 : okv ku u) (k2 : okv kv v) (h7 : M i 7 = 1) (h5 : M i 5 = 2) : Wk N t n σ M i op (tv (cmpo op (u.1 * nb v.2) (v.1 * nb u.2))) := by
  have a4 : aB (nI i) (gN σ (t + 4)) := q.a (c := 2) (by decide) hi
  have a8 : aB (nI i) (gN σ (t + 8)) := q.a (c := 6) (by decide) hi
  have cl : (nI i).toNatClampNeg = i := nI_clamp (by have := q.2.1; omega)
  have f77 := F77' (N := N) q hi hx hy e2 e3 hu hv k1 k2
  have f78 := F78' (N := N) (σ := σ) ho ho2 (u.1 * nb v.2) (v.1 * nb u.2)
  have nk : ∀ m, (m < 10 ∨ 15 < m) → m < 40 → ¬ nI op = nI m := fun m hm hm2 => nik (by omega) (by omega) (by omega)
  refine ⟨_, _, ?_, Nx.one ht q (x := if (cmpo op (u.1 * nb v.2) (v.1 * nb u.2)) = true then 1 else 0) (v := tv (cmpo op (u.1 * nb v.2) (v.1 * nb u.2))) ?_ h7 h5⟩
  · unfold F_76
    rw [if_pos a4, if_neg (show ¬ nI op = 2 from nk 2 (by decide) (by decide)), if_neg (show ¬ nI op = 3 from nk 3 (by decide) (by decide)), if_neg (show ¬ nI op = 9 from nk 9 (by decide) (by decide)), if_neg (show ¬ nI op = 16 from nk 16 (by decide) (by decide)), if_neg (show ¬ nI op = 17 from nk 17 (by decide) (by decide)), if_neg (show ¬ nI op = 18 from nk 18 (by decide) (by decide)), if_neg (show ¬ nI op = 19 from nk 19 (by decide) (by decide)), if_neg (show ¬ nI op = 20 from nk 20 (by decide) (by decide)), if_neg (show ¬ nI op = 21 from nk 21 (by decide) (by decide)), if_neg (show ¬ nI op = 22 from nk 22 (by decide) (by decide))]
    rw [if_neg (fun z => by have := (nI_lti (b := 10) (by omega) (by decide)).mp z; omega), if_neg (fun z => by have := (nI_lti (a := 15) (by decide) (by omega)).mp z; omega), f77, ob_some, f78, ob_some]
    dsimp only
    rw [if_pos a8, cl]
    cases cmpo op (u.1 * nb v.2) (v.1 * nb u.2) <;> rfl
  · cases cmpo op (u.1 * nb v.2) (v.1 * nb u.2) <;> rfl
end BNA
end MD
