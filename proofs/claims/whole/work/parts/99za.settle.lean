/-! the class's machine: one node -/
section MA
variable {N : Nat} {σ : st_S} {t n : Nat} {M : Nat → Nat → Int32}
theorem toL {x : Int64} (h : x.toInt.natAbs < 1000000000) : x.toInt32.toInt64 = x := lg_i2l_l2i (by omega) (by omega)
/-- a value's kind -/
def kvv (b : Int64) : Int32 := if b = 0 then 2 else 1
theorem kvv_k {k : Nat} {v : Int64 × Int64} (h : okv k v) : kvv v.2 = nI k := by
  unfold kvv
  rcases h with ⟨rfl, _, _, h3, _⟩ | ⟨rfl, _, h3⟩
  · rw [if_neg (fun z => by rw [z] at h3; exact absurd h3 (by decide))]; rfl
  · rw [if_pos h3]; rfl
/-- a value stands at a node -/
def Va (M : Nat → Nat → Int32) (i : Nat) (v : Int64 × Int64) : Prop := M i 6 = v.1.toInt32 ∧ M i 7 = bl1 v.2 ∧ M i 5 = kvv v.2
theorem Va.num {i : Nat} {v : Int64 × Int64} (h : Va M i v) (hk : okv 1 v) : (M i 6).toInt64 = v.1 ∧ (M i 7).toInt64 = v.2 := by
  obtain ⟨h1, h2, -⟩ := h
  obtain ⟨k1, k2, k3⟩ := okv1.mp hk
  rw [h1, h2]
  have c : ¬ v.2 = 0 := fun z => by rw [z] at k2; exact absurd k2 (by decide)
  unfold bl1
  rw [if_neg c]
  exact ⟨toL k1, toL (by omega)⟩
theorem Va.tru {i : Nat} {v : Int64 × Int64} (h : Va M i v) (hk : okv 2 v) : M i 7 = 1 ∧ ((M i 6 = 1 ∧ v = (1, 0)) ∨ (M i 6 = 0 ∧ v = (0, 0))) := by
  obtain ⟨h1, h2, -⟩ := h
  obtain ⟨k1, k2⟩ := okv2.mp hk
  obtain ⟨a, b⟩ := v
  dsimp only at h1 h2 k1 k2
  subst k2
  refine ⟨h2, ?_⟩
  rcases k1 with rfl | rfl
  · exact Or.inr ⟨h1, rfl⟩
  · exact Or.inl ⟨h1, rfl⟩
theorem dv_1 {x : Int64} (hx : x.toInt ≠ -9223372036854775808) : dv x 1 = 1 := by
  obtain ⟨d1, d2, -⟩ := dv_ok (y := 1) hx (by decide)
  apply Int64.toInt_inj.mp
  have : Nat.gcd x.toInt.natAbs (1 : Int64).toInt.natAbs = 1 := Nat.gcd_one_right _
  rw [this] at d2
  rw [L1]
  omega
theorem dv_ne (x y : Int64) : ¬ dv x y = 0 := by
  unfold dv
  generalize eu 256 (if 0 ≤ x then x else -x) (if 0 ≤ y then y else -y) = g
  by_cases c : g ≤ 0
  · rw [if_pos c]; decide
  · rw [if_neg c]
    intro z
    rw [z] at c
    exact c (Int64.le_refl _)
/-- settle -/
theorem F74' (q : CS σ t n M) (hN : 300 < N) {i : Nat} (hi : i < n) (hx : (gJ σ 42 7).toInt ≠ -9223372036854775808) : F_74 N t (nI i) σ = match fra (gJ σ 42 7) (gJ σ 42 8) with
    | .inl f => some (nI f, σ)
    | .inr z => some (0, st_e (st_e σ (t + 8) i z.1.toInt32) (t + 9) i z.2.toInt32) := by
  have a8 : aB (nI i) (gN σ (t + 8)) := q.a (c := 6) (by decide) hi
  have a9 : aB (nI i) (gN σ (t + 9)) := q.a (c := 7) (by decide) hi
  have cl : (nI i).toNatClampNeg = i := nI_clamp (by have := q.2.1; omega)
  have key : ∀ g : Int64, g = dv (gJ σ 42 7) (gJ σ 42 8) → (if 0 ≤ lg_cmp (gJ σ 42 7 / g) 1000000000 then some ((6 : Int32), σ) else if lg_cmp (gJ σ 42 7 / g) (-1000000000) ≤ 0 then some (6, σ) else if lg_cmp (gJ σ 42 8 / g) 1000000000 < 0 then (if aB (nI i) (gN σ (t + 8)) then if aB (nI i) (gN σ (t + 9)) then some (0, st_e (st_e σ (t + 8) (nI i).toNatClampNeg (gJ σ 42 7 / g).toInt32) (t + 9) (nI i).toNatClampNeg (gJ σ 42 8 / g).toInt32) else none else none) else some (6, σ)) = match fra (gJ σ 42 7) (gJ σ 42 8) with
    | .inl f => some (nI f, σ)
    | .inr z => some (0, st_e (st_e σ (t + 8) i z.1.toInt32) (t + 9) i z.2.toInt32) := by
    intro g hg
    unfold fra
    rw [← hg, if_pos a8, if_pos a9, cl]
    by_cases c1 : 1000000000 ≤ gJ σ 42 7 / g
    · rw [if_pos ((lg_cmp_ge _ _).mpr c1), if_pos (Or.inl c1)]
      rfl
    rw [if_neg (fun z => c1 ((lg_cmp_ge _ _).mp z))]
    by_cases c2 : gJ σ 42 7 / g ≤ -1000000000
    · rw [if_pos ((lg_cmp_le _ _).mpr c2), if_pos (Or.inr (Or.inl c2))]
      rfl
    rw [if_neg (fun z => c2 ((lg_cmp_le _ _).mp z))]
    by_cases c3 : 1000000000 ≤ gJ σ 42 8 / g
    · rw [if_neg (fun z => absurd c3 (lg_lt_not_le ((lg_cmp_lt _ _).mp z))), if_pos (Or.inr (Or.inr c3))]
      rfl
    · have lt : gJ σ 42 8 / g < 1000000000 := by
        rcases lg_tri (gJ σ 42 8 / g) 1000000000 with z | z | z
        · exact z
        · exact absurd (by rw [z]; exact Int64.le_refl _) c3
        · exact absurd (by rw [Int64.le_iff_toInt_le]; rw [Int64.lt_iff_toInt_lt] at z; omega) c3
      rw [if_pos ((lg_cmp_lt _ _).mpr lt), if_neg (fun z => z.elim c1 (fun z => z.elim c2 c3))]
  unfold F_74
  by_cases c : gJ σ 42 8 = 1
  · rw [if_pos ((lg_cmp_eq _ _).mpr c), if_pos (by decide)]
    refine key 1 ?_
    rw [c, dv_1 hx]
  · rw [if_neg (fun z => c ((lg_cmp_eq _ _).mp z)), F75 hN, ob_some]
    dsimp only
    have ne := dv_ne (gJ σ 42 7) (gJ σ 42 8)
    rw [if_pos ne]
    exact key _ rfl
theorem F73' {x y : Int64} (hy : 0 < y.toInt) (hx : x.toInt.natAbs < 1000000000) (hy2 : y.toInt < 1000000000) : F_73 N x y σ = some (md x y, σ) := by
  have hne : ¬ y = 0 := fun z => by rw [z] at hy; exact absurd hy (by decide)
  have hne1 : y ≠ -1 := fun z => by rw [z] at hy; exact absurd hy (by decide)
  have e1 := Int64.toInt_div_of_ne_right x y hne1
  have n1 : (x / y).toInt.natAbs < 1000000000 := by
    rw [e1, Int.natAbs_tdiv]
    exact Nat.lt_of_le_of_lt (Nat.div_le_self _ _) hx
  obtain ⟨e2, b2⟩ := L_mB (a := x / y) (d := y) n1 (by omega)
  have e3 : (x - x / y * y).toInt = x.toInt.tmod y.toInt := by
    rw [L_sub (by omega) (by omega), e2, e1, Int.tmod_def, Int.mul_comm]
  have sg : 0 ≤ x ^^^ y ↔ 0 ≤ x := by
    have h1 : (x ^^^ y).toBitVec.msb = (x.toBitVec.msb ^^ y.toBitVec.msb) := by
      rw [Int64.toBitVec_xor, BitVec.msb_xor]
    have h2 : ∀ z : Int64, 0 ≤ z ↔ z.toBitVec.msb = false := by
      intro z
      rw [Int64.le_iff_toInt_le, L0]
      have : z.toInt = z.toBitVec.toInt := rfl
      rw [this, BitVec.msb_eq_toInt]
      constructor
      · intro q; exact decide_eq_false (by omega)
      · intro q; have := of_decide_eq_false q; omega
    have hyp : y.toBitVec.msb = false := (h2 y).mp (by rw [Int64.le_iff_toInt_le, L0]; omega)
    rw [h2, h2, h1, hyp, Bool.xor_false]
  unfold F_73 md
  rw [if_pos hne]
  by_cases c : 0 ≤ x
  · rw [if_pos ((lg_cmp_ge _ _).mpr (sg.mpr c)), if_neg]
    rw [Int64.le_iff_toInt_le, L0] at c
    rw [Int64.lt_iff_toInt_lt, L0, e3]
    have := Int.tmod_nonneg y.toInt c
    omega
  · rw [if_neg (fun z => c (sg.mp ((lg_cmp_ge _ _).mp z)))]
    rw [Int64.le_iff_toInt_le, L0] at c
    have np : x.toInt.tmod y.toInt ≤ 0 := by
      have := Int.tmod_nonneg y.toInt (a := -x.toInt) (by omega)
      rw [Int.neg_tmod] at this
      omega
    by_cases d : x - x / y * y = 0
    · rw [if_pos ((lg_cmp_eq _ _).mpr d), if_neg]
      rw [d]
      decide
    · rw [if_neg (fun z => d ((lg_cmp_eq _ _).mp z)), if_pos]
      rw [Int64.lt_iff_toInt_lt, L0, e3]
      have : (x - x / y * y).toInt ≠ 0 := fun z => d (Int64.toInt_inj.mp (by rw [z, L0]))
      rw [e3] at this
      omega
end MA
