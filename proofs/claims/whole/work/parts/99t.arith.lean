/-! numbers: longs that don't run over; divisors -/
theorem bm64 {i : Int} (h1 : -9223372036854775808 ≤ i) (h2 : i < 9223372036854775808) : i.bmod (2 ^ 64) = i := Int.bmod_eq_of_le (by show -(18446744073709551616 / 2) ≤ i; omega) (by show i < (18446744073709551616 + 1) / 2; omega)
theorem L_add {a b : Int64} (h1 : -9223372036854775808 ≤ a.toInt + b.toInt) (h2 : a.toInt + b.toInt < 9223372036854775808) : (a + b).toInt = a.toInt + b.toInt := by rw [Int64.toInt_add, bm64 h1 h2]
theorem L_sub {a b : Int64} (h1 : -9223372036854775808 ≤ a.toInt - b.toInt) (h2 : a.toInt - b.toInt < 9223372036854775808) : (a - b).toInt = a.toInt - b.toInt := by rw [Int64.toInt_sub, bm64 h1 h2]
theorem L_mul {a b : Int64} (h1 : -9223372036854775808 ≤ a.toInt * b.toInt) (h2 : a.toInt * b.toInt < 9223372036854775808) : (a * b).toInt = a.toInt * b.toInt := by rw [Int64.toInt_mul, bm64 h1 h2]
theorem L_neg {a : Int64} (h1 : a.toInt ≠ -9223372036854775808) : (-a).toInt = -a.toInt := by
  have := Int64.le_toInt a
  have := Int64.toInt_lt a
  rw [Int64.toInt_neg, bm64 (by omega) (by omega)]
theorem L0 : (0 : Int64).toInt = 0 := rfl
theorem L1 : (1 : Int64).toInt = 1 := rfl
theorem LG : (1000000000 : Int64).toInt = 1000000000 := rfl
theorem LGn : (-1000000000 : Int64).toInt = -1000000000 := rfl
/-- what is left -/
theorem L_rem {x y : Int64} (hx : 0 ≤ x.toInt) (hy : 0 < y.toInt) : (x - x / y * y).toInt = x.toInt % y.toInt := by
  have h1 := lg_ldiv_nonneg hx hy
  have hx2 := Int64.toInt_lt x
  have e : x.toInt / y.toInt * y.toInt + x.toInt % y.toInt = x.toInt := by
    have := Int.ediv_mul_add_emod x.toInt y.toInt
    exact this
  have m0 := Int.emod_nonneg x.toInt (Int.ne_of_gt hy)
  have d0 : 0 ≤ x.toInt / y.toInt * y.toInt := Int.mul_nonneg (Int.ediv_nonneg hx (Int.le_of_lt hy)) (Int.le_of_lt hy)
  have h2 : (x / y * y).toInt = x.toInt / y.toInt * y.toInt := by
    rw [← h1] at e d0 ⊢
    exact L_mul (by omega) (by omega)
  rw [L_sub (by rw [h2]; omega) (by rw [h2]; omega), h2]
  omega
theorem rem_half {Y r : Nat} (h1 : 0 < r) (h2 : r < Y) : 2 * (Y % r) < Y := by
  have a := Nat.mod_lt Y h1
  have b : Y % r ≤ Y - r := by
    have e : Y % r = (Y - r) % r := Nat.mod_eq_sub_mod (Nat.le_of_lt h2)
    rw [e]
    exact Nat.mod_le _ _
  omega
theorem L_nat {x : Int64} (h : 0 ≤ x.toInt) : x.toInt = (x.toInt.toNat : Int) := (Int.toNat_of_nonneg h).symm
theorem L_remN {x y : Int64} (hx : 0 ≤ x.toInt) (hy : 0 < y.toInt) : 0 ≤ (x - x / y * y).toInt ∧ (x - x / y * y).toInt.toNat = x.toInt.toNat % y.toInt.toNat := by
  have e := L_rem hx hy
  have m0 := Int.emod_nonneg x.toInt (Int.ne_of_gt hy)
  refine ⟨by rw [e]; exact m0, ?_⟩
  rw [e]
  have : x.toInt % y.toInt = ((x.toInt.toNat % y.toInt.toNat : Nat) : Int) := by
    rw [Int.natCast_emod, Int.toNat_of_nonneg hx, Int.toNat_of_nonneg (Int.le_of_lt hy)]
  rw [this]
  rfl
theorem L_zero {y : Int64} (h : 0 ≤ y.toInt) : y = 0 ↔ y.toInt.toNat = 0 := by
  constructor
  · intro e; rw [e]; rfl
  · intro e
    apply Int64.toInt_inj.mp
    rw [L0]
    omega
/-- Euclid's steps -/
theorem eu_gcd : ∀ (j f : Nat) (x y : Int64), 0 ≤ x.toInt → 0 ≤ y.toInt → y.toInt.toNat < 2 ^ j → 2 * j + 1 ≤ f → 0 ≤ (eu f x y).toInt ∧ (eu f x y).toInt.toNat = Nat.gcd x.toInt.toNat y.toInt.toNat := by
  intro j
  induction j with
  | zero =>
    intro f x y hx hy hj hf
    obtain ⟨f, rfl⟩ : ∃ f', f = f' + 1 := ⟨f - 1, by omega⟩
    have y0 : y.toInt.toNat = 0 := by
      have : (2 : Nat) ^ 0 = 1 := rfl
      omega
    have e : eu (f + 1) x y = x := if_pos ((L_zero hy).mpr y0)
    rw [e, y0, Nat.gcd_zero_right]
    exact ⟨hx, rfl⟩
  | succ j ih =>
    intro f x y hx hy hj hf
    obtain ⟨f, rfl⟩ : ∃ f', f = f' + 1 + 1 := ⟨f - 2, by omega⟩
    by_cases y0 : y.toInt.toNat = 0
    · have e : eu (f + 1 + 1) x y = x := if_pos ((L_zero hy).mpr y0)
      rw [e, y0, Nat.gcd_zero_right]
      exact ⟨hx, rfl⟩
    have hy' : 0 < y.toInt := by omega
    have e : eu (f + 1 + 1) x y = eu (f + 1) y (x - x / y * y) := if_neg (fun z => y0 ((L_zero hy).mp z))
    obtain ⟨r1, r2⟩ := L_remN hx hy'
    rw [e, Nat.gcd_comm x.toInt.toNat y.toInt.toNat, Nat.gcd_rec y.toInt.toNat x.toInt.toNat]
    rw [← r2]
    generalize x - x / y * y = r at r1 r2 ⊢
    by_cases r0 : r.toInt.toNat = 0
    · have e : eu (f + 1) y r = y := if_pos ((L_zero r1).mpr r0)
      rw [e, r0, Nat.gcd_zero_left]
      exact ⟨hy, rfl⟩
    have hr' : 0 < r.toInt := by omega
    have e : eu (f + 1) y r = eu f r (y - y / r * r) := if_neg (fun z => r0 ((L_zero r1).mp z))
    obtain ⟨q1, q2⟩ := L_remN hy hr'
    have lt : r.toInt.toNat < y.toInt.toNat := by rw [r2]; exact Nat.mod_lt _ (by omega)
    have hf2 := rem_half (by omega) lt
    rw [e, Nat.gcd_rec r.toInt.toNat y.toInt.toNat, Nat.gcd_comm]
    rw [← q2]
    have hp : (2 : Nat) ^ (j + 1) = 2 * 2 ^ j := by rw [Nat.pow_succ]; omega
    exact ih f r (y - y / r * r) r1 q1 (by rw [q2]; omega) (by omega)
theorem L63 (y : Int64) : y.toInt.toNat < 2 ^ 63 := by
  have := Int64.toInt_lt y
  have e : (2 : Nat) ^ 63 = 9223372036854775808 := rfl
  have e2 : (2 : Int) ^ 63 = 9223372036854775808 := rfl
  rw [e2] at this
  rw [e]
  omega
/-- the reference's loop -/
theorem L196 {N : Nat} {σ : st_S} : ∀ (j f : Nat) (x y : Int64), 0 ≤ x.toInt → 0 ≤ y.toInt → y.toInt.toNat < 2 ^ j → 2 * j + 1 ≤ f → ∃ z, L_196 N f x y σ = some (z, σ) ∧ 0 ≤ z.toInt ∧ z.toInt.toNat = Nat.gcd x.toInt.toNat y.toInt.toNat := by
  have c0 : ∀ y : Int64, 0 ≤ y.toInt → (lg_cmp y 0 ≤ 0 ↔ y.toInt.toNat = 0) := by
    intro y hy
    rw [lg_cmp_le, Int64.le_iff_toInt_le, L0]
    omega
  intro j
  induction j with
  | zero =>
    intro f x y hx hy hj hf
    obtain ⟨f, rfl⟩ : ∃ f', f = f' + 1 := ⟨f - 1, by omega⟩
    have y0 : y.toInt.toNat = 0 := by
      have : (2 : Nat) ^ 0 = 1 := rfl
      omega
    have e : L_196 N (f + 1) x y σ = some (x, σ) := by
      unfold L_196
      rw [if_pos ((c0 y hy).mpr y0)]
    exact ⟨x, e, hx, by rw [y0, Nat.gcd_zero_right]⟩
  | succ j ih =>
    intro f x y hx hy hj hf
    obtain ⟨f, rfl⟩ : ∃ f', f = f' + 1 + 1 := ⟨f - 2, by omega⟩
    by_cases y0 : y.toInt.toNat = 0
    · have e : L_196 N (f + 1 + 1) x y σ = some (x, σ) := by
        unfold L_196
        rw [if_pos ((c0 y hy).mpr y0)]
      exact ⟨x, e, hx, by rw [y0, Nat.gcd_zero_right]⟩
    have hy' : 0 < y.toInt := by omega
    have e : L_196 N (f + 1 + 1) x y σ = L_196 N (f + 1) y (x - x / y * y) σ := by
      conv => lhs; unfold L_196
      rw [if_neg (fun z => y0 ((c0 y hy).mp z)), if_pos (fun z => y0 ((L_zero hy).mp z))]
    obtain ⟨r1, r2⟩ := L_remN hx hy'
    rw [e, Nat.gcd_comm x.toInt.toNat y.toInt.toNat, Nat.gcd_rec y.toInt.toNat x.toInt.toNat]
    rw [← r2]
    generalize x - x / y * y = r at r1 r2 ⊢
    by_cases r0 : r.toInt.toNat = 0
    · have e : L_196 N (f + 1) y r σ = some (y, σ) := by
        unfold L_196
        rw [if_pos ((c0 r r1).mpr r0)]
      exact ⟨y, e, hy, by rw [r0, Nat.gcd_zero_left]⟩
    have hr' : 0 < r.toInt := by omega
    have e : L_196 N (f + 1) y r σ = L_196 N f r (y - y / r * r) σ := by
      conv => lhs; unfold L_196
      rw [if_neg (fun z => r0 ((c0 r r1).mp z)), if_pos (fun z => r0 ((L_zero r1).mp z))]
    obtain ⟨q1, q2⟩ := L_remN hy hr'
    have lt : r.toInt.toNat < y.toInt.toNat := by rw [r2]; exact Nat.mod_lt _ (by omega)
    have hf2 := rem_half (by omega) lt
    rw [e, Nat.gcd_rec r.toInt.toNat y.toInt.toNat, Nat.gcd_comm]
    rw [← q2]
    have hp : (2 : Nat) ^ (j + 1) = 2 * 2 ^ j := by rw [Nat.pow_succ]; omega
    exact ih f r (y - y / r * r) r1 q1 (by rw [q2]; omega) (by omega)
theorem L_abs {x : Int64} (h : x.toInt ≠ -9223372036854775808) : 0 ≤ (if 0 ≤ x then x else -x : Int64).toInt ∧ (if 0 ≤ x then x else -x : Int64).toInt.toNat = x.toInt.natAbs := by
  by_cases c : 0 ≤ x
  · rw [if_pos c]
    rw [Int64.le_iff_toInt_le, L0] at c
    omega
  · rw [if_neg c]
    rw [Int64.le_iff_toInt_le, L0] at c
    rw [L_neg h]
    omega
theorem abs_pos {y : Int64} (h : 0 < y.toInt) : (if 0 ≤ y then y else -y : Int64) = y := if_pos (by rw [Int64.le_iff_toInt_le, L0]; omega)
/-- the divisor: with something below -/
theorem dv_ok {x y : Int64} (hx : x.toInt ≠ -9223372036854775808) (hy : 0 < y.toInt) : 0 < (dv x y).toInt ∧ (dv x y).toInt.toNat = Nat.gcd x.toInt.natAbs y.toInt.natAbs ∧ dv x y = eu 256 (if 0 ≤ x then x else -x) y := by
  obtain ⟨a1, a2⟩ := L_abs hx
  obtain ⟨g1, g2⟩ := eu_gcd 63 256 (if 0 ≤ x then x else -x) y a1 (Int.le_of_lt hy) (L63 y) (by decide)
  have ny : y.toInt.toNat = y.toInt.natAbs := by omega
  rw [a2, ny] at g2
  have gp : 0 < Nat.gcd x.toInt.natAbs y.toInt.natAbs := Nat.gcd_pos_of_pos_right _ (by omega)
  unfold dv
  rw [abs_pos hy]
  have c : ¬ eu 256 (if 0 ≤ x then x else -x) y ≤ 0 := by
    rw [Int64.le_iff_toInt_le, L0]
    omega
  rw [if_neg c]
  exact ⟨by omega, g2, rfl⟩
theorem F196 {N : Nat} {σ : st_S} {x y : Int64} (hN : 200 < N) (hx : x.toInt ≠ -9223372036854775808) (hy : 0 < y.toInt) : F_196 N x y σ = some (dv x y, σ) := by
  obtain ⟨a1, a2⟩ := L_abs hx
  obtain ⟨z, e, z1, z2⟩ := L196 (N := N) (σ := σ) 63 N (if 0 ≤ x then x else -x) y a1 (Int.le_of_lt hy) (L63 y) (by omega)
  obtain ⟨d1, d2, -⟩ := dv_ok hx hy
  have ny : y.toInt.toNat = y.toInt.natAbs := by omega
  rw [a2, ny] at z2
  have ez : z = dv x y := by
    apply Int64.toInt_inj.mp
    omega
  unfold F_196
  have c : (if 0 ≤ lg_cmp x 0 then x else (-x) : Int64) = if 0 ≤ x then x else -x := by
    by_cases q : 0 ≤ x
    · rw [if_pos q, if_pos ((lg_cmp_ge x 0).mpr q)]
    · rw [if_neg q, if_neg (fun z => q ((lg_cmp_ge x 0).mp z))]
  rw [c, e, ez]
theorem L75 {N : Nat} {σ : st_S} : ∀ (f i k : Nat) (x y : Int64), i + f = 256 → f < k → L_75 N k x y (nI i) σ = some ((if eu f x y ≤ 0 then 1 else eu f x y : Int64), σ) := by
  intro f
  have J : ∀ x : Int64, J_75_67 N x σ = some ((if x ≤ 0 then 1 else x : Int64), σ) := by
    intro x
    unfold J_75_67
    by_cases c : x ≤ 0
    · rw [if_pos c, if_pos ((lg_cmp_le x 0).mpr c)]
    · rw [if_neg c, if_neg (fun z => c ((lg_cmp_le x 0).mp z))]
  induction f with
  | zero =>
    intro i k x y hi hk
    obtain ⟨k, rfl⟩ : ∃ k', k = k' + 1 := ⟨k - 1, by omega⟩
    have e : i = 256 := by omega
    subst e
    unfold L_75
    rw [if_pos (by decide), J]
    rfl
  | succ f ih =>
    intro i k x y hi hk
    obtain ⟨k, rfl⟩ : ∃ k', k = k' + 1 := ⟨k - 1, by omega⟩
    have hi' : ¬ 256 ≤ nI i := fun q => by
      have := (nI_lei (a := 256) (b := i) (by decide) (by omega)).mp q
      omega
    conv => lhs; unfold L_75
    rw [if_neg hi']
    by_cases c : y = 0
    · have e : eu (f + 1) x y = x := if_pos c
      rw [if_pos ((lg_cmp_eq y 0).mpr c), J, e]
    · have e : eu (f + 1) x y = eu f y (x - x / y * y) := if_neg c
      rw [if_neg (fun z => c ((lg_cmp_eq y 0).mp z)), if_pos c, nI_1, e]
      exact ih (i + 1) k y (x - x / y * y) (by omega) (by omega)
theorem F75 {N : Nat} {σ : st_S} (hN : 300 < N) (x y : Int64) : F_75 N x y σ = some (dv x y, σ) := by
  have c : ∀ x : Int64, (if 0 ≤ lg_cmp x 0 then x else (-x) : Int64) = if 0 ≤ x then x else -x := by
    intro x
    by_cases q : 0 ≤ x
    · rw [if_pos q, if_pos ((lg_cmp_ge x 0).mpr q)]
    · rw [if_neg q, if_neg (fun z => q ((lg_cmp_ge x 0).mp z))]
  unfold F_75
  rw [c, c]
  exact L75 256 0 N _ _ rfl (by omega)
