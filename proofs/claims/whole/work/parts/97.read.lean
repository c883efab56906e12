/-! the reference's reader, all words. Written by wip/prog/gen_read.py -/
def so (a : Nat) : Bool := decide (a < 76) && a != 52 && a != 55
def c75 : List Nat → Nat
  | [] => 0
  | a :: s => (if a = 75 then 1 else 0) + c75 s
def p76 (p : List Nat) : Nat := if p.head? = some 76 then 1 else 0
def po (p : List Nat) : Bool := match p with
  | [] => true
  | a :: s => (so a || a == 76) && s.all so
/-- a stack and its level -/
def IV (S : List Nat) (v : Nat) : Prop := po S = true ∧ p76 S + v = c75 S ∧ v ≤ 40
/-- what a symbol leaves -/
def RO (a : Nat) (S : List Nat) (v : Nat) (x : Option (List Nat × Nat × Bool)) : Prop := x = none ∨ ∃ p v' b, x = some (p ++ S, v', b) ∧ p.length ≤ 6 ∧ po p = true ∧ p76 p + v' + (if a = 75 then 1 else 0) = v + (if a = 76 then 1 else 0) + c75 p ∧ v' ≤ 40
theorem ro_i {a v v' n m : Nat} {S : List Nat} {x : Option (List Nat × Nat × Bool)} (p : List Nat) (b : Bool) (h : x = some (p ++ S, v', b)) (h1 : p.length ≤ 6) (h2 : po p = true) (h3 : p76 p = n) (h4 : c75 p = m) (h5 : n + v' + (if a = 75 then 1 else 0) = v + (if a = 76 then 1 else 0) + m) (h6 : v' ≤ 40) : RO a S v x := Or.inr ⟨p, v', b, h, h1, h2, by rw [h3, h4]; exact h5, h6⟩
section RST
variable {k : Nat} {S : List Nat} {v : Nat}
theorem ro_50 (hv : v ≤ 40) : RO 50 S v (rst k 50 S v) := by
  have er : rst k 50 S v = if k = 0 then some (S, v, true) else if k = 3 ∨ k = 6 then some (51 :: 34 :: 50 :: S, v, true) else if k = 4 then some (1 :: 33 :: 53 :: 54 :: 34 :: 50 :: S, v, true) else if k = 11 then some (61 :: 34 :: 50 :: S, v, true) else if k = 7 ∨ k = 8 then some (61 :: 17 :: 56 :: 57 :: 34 :: 50 :: S, v, true) else none := rfl
  rw [er]
  split
  · skip
    exact ro_i (v := v) (v' := v) (n := 0) (m := 0) [] true rfl (by decide) (by decide) (by decide) (by decide) (by simp only [Nat.reduceEqDiff, if_true, if_false]; omega) (by omega)
  · skip
    split
    · skip
      exact ro_i (v := v) (v' := v) (n := 0) (m := 0) [51, 34, 50] true rfl (by decide) (by decide) (by decide) (by decide) (by simp only [Nat.reduceEqDiff, if_true, if_false]; omega) (by omega)
    · skip
      split
      · skip
        exact ro_i (v := v) (v' := v) (n := 0) (m := 0) [1, 33, 53, 54, 34, 50] true rfl (by decide) (by decide) (by decide) (by decide) (by simp only [Nat.reduceEqDiff, if_true, if_false]; omega) (by omega)
      · skip
        split
        · skip
          exact ro_i (v := v) (v' := v) (n := 0) (m := 0) [61, 34, 50] true rfl (by decide) (by decide) (by decide) (by decide) (by simp only [Nat.reduceEqDiff, if_true, if_false]; omega) (by omega)
        · skip
          split
          · skip
            exact ro_i (v := v) (v' := v) (n := 0) (m := 0) [61, 17, 56, 57, 34, 50] true rfl (by decide) (by decide) (by decide) (by decide) (by simp only [Nat.reduceEqDiff, if_true, if_false]; omega) (by omega)
          · skip
            exact Or.inl rfl
theorem ro_51 (hv : v ≤ 40) : RO 51 S v (rst k 51 S v) := by
  have er : rst k 51 S v = some (1 :: 23 :: 61 :: S, v, false) := rfl
  rw [er]
  exact ro_i (v := v) (v' := v) (n := 0) (m := 0) [1, 23, 61] false rfl (by decide) (by decide) (by decide) (by decide) (by simp only [Nat.reduceEqDiff, if_true, if_false]; omega) (by omega)
theorem ro_53 (hv : v ≤ 40) : RO 53 S v (rst k 53 S v) := by
  have er : rst k 53 S v = (if k = 5 then some (S, v, true) else some (61 :: 16 :: 61 :: S, v, false)) := rfl
  rw [er]
  split
  · skip
    exact ro_i (v := v) (v' := v) (n := 0) (m := 0) [] true rfl (by decide) (by decide) (by decide) (by decide) (by simp only [Nat.reduceEqDiff, if_true, if_false]; omega) (by omega)
  · skip
    exact ro_i (v := v) (v' := v) (n := 0) (m := 0) [61, 16, 61] false rfl (by decide) (by decide) (by decide) (by decide) (by simp only [Nat.reduceEqDiff, if_true, if_false]; omega) (by omega)
theorem ro_54 (hv : v ≤ 40) : RO 54 S v (rst k 54 S v) := by
  have er : rst k 54 S v = (if k = 9 then some (61 :: S, v, true) else some (S, v, false)) := rfl
  rw [er]
  split
  · skip
    exact ro_i (v := v) (v' := v) (n := 0) (m := 0) [61] true rfl (by decide) (by decide) (by decide) (by decide) (by simp only [Nat.reduceEqDiff, if_true, if_false]; omega) (by omega)
  · skip
    exact ro_i (v := v) (v' := v) (n := 0) (m := 0) [] false rfl (by decide) (by decide) (by decide) (by decide) (by simp only [Nat.reduceEqDiff, if_true, if_false]; omega) (by omega)
theorem ro_56 (hv : v ≤ 40) : RO 56 S v (rst k 56 S v) := by
  have er : rst k 56 S v = some (63 :: 33 :: 58 :: S, v, false) := rfl
  rw [er]
  exact ro_i (v := v) (v' := v) (n := 0) (m := 0) [63, 33, 58] false rfl (by decide) (by decide) (by decide) (by decide) (by simp only [Nat.reduceEqDiff, if_true, if_false]; omega) (by omega)
theorem ro_57 (hv : v ≤ 40) : RO 57 S v (rst k 57 S v) := by
  have er : rst k 57 S v = (if k = 24 then some (56 :: 57 :: S, v, true) else some (S, v, false)) := rfl
  rw [er]
  split
  · skip
    exact ro_i (v := v) (v' := v) (n := 0) (m := 0) [56, 57] true rfl (by decide) (by decide) (by decide) (by decide) (by simp only [Nat.reduceEqDiff, if_true, if_false]; omega) (by omega)
  · skip
    exact ro_i (v := v) (v' := v) (n := 0) (m := 0) [] false rfl (by decide) (by decide) (by decide) (by decide) (by simp only [Nat.reduceEqDiff, if_true, if_false]; omega) (by omega)
theorem ro_58 (hv : v ≤ 40) : RO 58 S v (rst k 58 S v) := by
  have er : rst k 58 S v = (if k = 10 then some (S, v, true) else some (59 :: 60 :: S, v, false)) := rfl
  rw [er]
  split
  · skip
    exact ro_i (v := v) (v' := v) (n := 0) (m := 0) [] true rfl (by decide) (by decide) (by decide) (by decide) (by simp only [Nat.reduceEqDiff, if_true, if_false]; omega) (by omega)
  · skip
    exact ro_i (v := v) (v' := v) (n := 0) (m := 0) [59, 60] false rfl (by decide) (by decide) (by decide) (by decide) (by simp only [Nat.reduceEqDiff, if_true, if_false]; omega) (by omega)
theorem ro_59 (hv : v ≤ 40) : RO 59 S v (rst k 59 S v) := by
  have er : rst k 59 S v = (if k = 36 ∧ v + 1 ≤ 40 then some (1 :: 38 :: 23 :: 61 :: 37 :: 75 :: S, v + 1, true) else none) := rfl
  rw [er]
  split
  · skip
    exact ro_i (v := v) (v' := v + 1) (n := 0) (m := 1) [1, 38, 23, 61, 37, 75] true rfl (by decide) (by decide) (by decide) (by decide) (by simp only [Nat.reduceEqDiff, if_true, if_false]; omega) (by omega)
  · skip
    exact Or.inl rfl
theorem ro_60 (hv : v ≤ 40) : RO 60 S v (rst k 60 S v) := by
  have er : rst k 60 S v = (if k = 29 then some (59 :: 60 :: S, v, true) else some (S, v, false)) := rfl
  rw [er]
  split
  · skip
    exact ro_i (v := v) (v' := v) (n := 0) (m := 0) [59, 60] true rfl (by decide) (by decide) (by decide) (by decide) (by simp only [Nat.reduceEqDiff, if_true, if_false]; omega) (by omega)
  · skip
    exact ro_i (v := v) (v' := v) (n := 0) (m := 0) [] false rfl (by decide) (by decide) (by decide) (by decide) (by simp only [Nat.reduceEqDiff, if_true, if_false]; omega) (by omega)
theorem ro_61 (hv : v ≤ 40) : RO 61 S v (rst k 61 S v) := by
  have er : rst k 61 S v = some (63 :: 62 :: S, v, false) := rfl
  rw [er]
  exact ro_i (v := v) (v' := v) (n := 0) (m := 0) [63, 62] false rfl (by decide) (by decide) (by decide) (by decide) (by simp only [Nat.reduceEqDiff, if_true, if_false]; omega) (by omega)
theorem ro_62 (hv : v ≤ 40) : RO 62 S v (rst k 62 S v) := by
  have er : rst k 62 S v = (if k = 32 then (if v + 1 ≤ 40 then some (61 :: 33 :: 61 :: 75 :: S, v + 1, true) else none) else some (S, v, false)) := rfl
  rw [er]
  split
  · skip
    split
    · skip
      exact ro_i (v := v) (v' := v + 1) (n := 0) (m := 1) [61, 33, 61, 75] true rfl (by decide) (by decide) (by decide) (by decide) (by simp only [Nat.reduceEqDiff, if_true, if_false]; omega) (by omega)
    · skip
      exact Or.inl rfl
  · skip
    exact ro_i (v := v) (v' := v) (n := 0) (m := 0) [] false rfl (by decide) (by decide) (by decide) (by decide) (by simp only [Nat.reduceEqDiff, if_true, if_false]; omega) (by omega)
theorem ro_63 (hv : v ≤ 40) : RO 63 S v (rst k 63 S v) := by
  have er : rst k 63 S v = some (65 :: 64 :: S, v, false) := rfl
  rw [er]
  exact ro_i (v := v) (v' := v) (n := 0) (m := 0) [65, 64] false rfl (by decide) (by decide) (by decide) (by decide) (by simp only [Nat.reduceEqDiff, if_true, if_false]; omega) (by omega)
theorem ro_64 (hv : v ≤ 40) : RO 64 S v (rst k 64 S v) := by
  have er : rst k 64 S v = (if k = 30 then some (65 :: 64 :: S, v, true) else some (S, v, false)) := rfl
  rw [er]
  split
  · skip
    exact ro_i (v := v) (v' := v) (n := 0) (m := 0) [65, 64] true rfl (by decide) (by decide) (by decide) (by decide) (by simp only [Nat.reduceEqDiff, if_true, if_false]; omega) (by omega)
  · skip
    exact ro_i (v := v) (v' := v) (n := 0) (m := 0) [] false rfl (by decide) (by decide) (by decide) (by decide) (by simp only [Nat.reduceEqDiff, if_true, if_false]; omega) (by omega)
theorem ro_65 (hv : v ≤ 40) : RO 65 S v (rst k 65 S v) := by
  have er : rst k 65 S v = some (67 :: 66 :: S, v, false) := rfl
  rw [er]
  exact ro_i (v := v) (v' := v) (n := 0) (m := 0) [67, 66] false rfl (by decide) (by decide) (by decide) (by decide) (by simp only [Nat.reduceEqDiff, if_true, if_false]; omega) (by omega)
theorem ro_66 (hv : v ≤ 40) : RO 66 S v (rst k 66 S v) := by
  have er : rst k 66 S v = (if k = 29 then some (67 :: 66 :: S, v, true) else some (S, v, false)) := rfl
  rw [er]
  split
  · skip
    exact ro_i (v := v) (v' := v) (n := 0) (m := 0) [67, 66] true rfl (by decide) (by decide) (by decide) (by decide) (by simp only [Nat.reduceEqDiff, if_true, if_false]; omega) (by omega)
  · skip
    exact ro_i (v := v) (v' := v) (n := 0) (m := 0) [] false rfl (by decide) (by decide) (by decide) (by decide) (by simp only [Nat.reduceEqDiff, if_true, if_false]; omega) (by omega)
theorem ro_67 (hv : v ≤ 40) : RO 67 S v (rst k 67 S v) := by
  have er : rst k 67 S v = (if k = 31 then (if v + 1 ≤ 40 then some (67 :: 75 :: S, v + 1, true) else none) else some (69 :: 68 :: S, v, false)) := rfl
  rw [er]
  split
  · skip
    split
    · skip
      exact ro_i (v := v) (v' := v + 1) (n := 0) (m := 1) [67, 75] true rfl (by decide) (by decide) (by decide) (by decide) (by simp only [Nat.reduceEqDiff, if_true, if_false]; omega) (by omega)
    · skip
      exact Or.inl rfl
  · skip
    exact ro_i (v := v) (v' := v) (n := 0) (m := 0) [69, 68] false rfl (by decide) (by decide) (by decide) (by decide) (by simp only [Nat.reduceEqDiff, if_true, if_false]; omega) (by omega)
theorem ro_68 (hv : v ≤ 40) : RO 68 S v (rst k 68 S v) := by
  have er : rst k 68 S v = (if cmpk k then some (69 :: S, v, true) else some (S, v, false)) := rfl
  rw [er]
  split
  · skip
    exact ro_i (v := v) (v' := v) (n := 0) (m := 0) [69] true rfl (by decide) (by decide) (by decide) (by decide) (by simp only [Nat.reduceEqDiff, if_true, if_false]; omega) (by omega)
  · skip
    exact ro_i (v := v) (v' := v) (n := 0) (m := 0) [] false rfl (by decide) (by decide) (by decide) (by decide) (by simp only [Nat.reduceEqDiff, if_true, if_false]; omega) (by omega)
theorem ro_69 (hv : v ≤ 40) : RO 69 S v (rst k 69 S v) := by
  have er : rst k 69 S v = some (71 :: 70 :: S, v, false) := rfl
  rw [er]
  exact ro_i (v := v) (v' := v) (n := 0) (m := 0) [71, 70] false rfl (by decide) (by decide) (by decide) (by decide) (by simp only [Nat.reduceEqDiff, if_true, if_false]; omega) (by omega)
theorem ro_70 (hv : v ≤ 40) : RO 70 S v (rst k 70 S v) := by
  have er : rst k 70 S v = (if k = 24 ∨ k = 25 then some (71 :: 70 :: S, v, true) else some (S, v, false)) := rfl
  rw [er]
  split
  · skip
    exact ro_i (v := v) (v' := v) (n := 0) (m := 0) [71, 70] true rfl (by decide) (by decide) (by decide) (by decide) (by simp only [Nat.reduceEqDiff, if_true, if_false]; omega) (by omega)
  · skip
    exact ro_i (v := v) (v' := v) (n := 0) (m := 0) [] false rfl (by decide) (by decide) (by decide) (by decide) (by simp only [Nat.reduceEqDiff, if_true, if_false]; omega) (by omega)
theorem ro_71 (hv : v ≤ 40) : RO 71 S v (rst k 71 S v) := by
  have er : rst k 71 S v = some (73 :: 72 :: S, v, false) := rfl
  rw [er]
  exact ro_i (v := v) (v' := v) (n := 0) (m := 0) [73, 72] false rfl (by decide) (by decide) (by decide) (by decide) (by simp only [Nat.reduceEqDiff, if_true, if_false]; omega) (by omega)
theorem ro_72 (hv : v ≤ 40) : RO 72 S v (rst k 72 S v) := by
  have er : rst k 72 S v = (if k = 26 ∨ k = 27 ∨ k = 28 then some (73 :: 72 :: S, v, true) else some (S, v, false)) := rfl
  rw [er]
  split
  · skip
    exact ro_i (v := v) (v' := v) (n := 0) (m := 0) [73, 72] true rfl (by decide) (by decide) (by decide) (by decide) (by simp only [Nat.reduceEqDiff, if_true, if_false]; omega) (by omega)
  · skip
    exact ro_i (v := v) (v' := v) (n := 0) (m := 0) [] false rfl (by decide) (by decide) (by decide) (by decide) (by simp only [Nat.reduceEqDiff, if_true, if_false]; omega) (by omega)
theorem ro_73 (hv : v ≤ 40) : RO 73 S v (rst k 73 S v) := by
  have er : rst k 73 S v = if k = 25 then (if v + 1 ≤ 40 then some (73 :: 75 :: S, v + 1, true) else none) else if k = 1 ∨ k = 2 ∨ k = 12 ∨ k = 13 then some (S, v, true) else if k = 36 then (if v + 1 ≤ 40 then some (61 :: 37 :: 75 :: S, v + 1, true) else none) else if k = 14 ∨ k = 15 then some (76 :: 61 :: 74 :: 37 :: 75 :: S, v, true) else none := rfl
  rw [er]
  split
  · skip
    split
    · skip
      exact ro_i (v := v) (v' := v + 1) (n := 0) (m := 1) [73, 75] true rfl (by decide) (by decide) (by decide) (by decide) (by simp only [Nat.reduceEqDiff, if_true, if_false]; omega) (by omega)
    · skip
      exact Or.inl rfl
  · skip
    split
    · skip
      exact ro_i (v := v) (v' := v) (n := 0) (m := 0) [] true rfl (by decide) (by decide) (by decide) (by decide) (by simp only [Nat.reduceEqDiff, if_true, if_false]; omega) (by omega)
    · skip
      split
      · skip
        split
        · skip
          exact ro_i (v := v) (v' := v + 1) (n := 0) (m := 1) [61, 37, 75] true rfl (by decide) (by decide) (by decide) (by decide) (by simp only [Nat.reduceEqDiff, if_true, if_false]; omega) (by omega)
        · skip
          exact Or.inl rfl
      · skip
        split
        · skip
          exact ro_i (v := v) (v' := v) (n := 1) (m := 1) [76, 61, 74, 37, 75] true rfl (by decide) (by decide) (by decide) (by decide) (by simp only [Nat.reduceEqDiff, if_true, if_false]; omega) (by omega)
        · skip
          exact Or.inl rfl
theorem ro_74 (hv : v ≤ 40) : RO 74 S v (rst k 74 S v) := by
  have er : rst k 74 S v = (if k = 35 then some (61 :: 74 :: S, v, true) else some (S, v, false)) := rfl
  rw [er]
  split
  · skip
    exact ro_i (v := v) (v' := v) (n := 0) (m := 0) [61, 74] true rfl (by decide) (by decide) (by decide) (by decide) (by simp only [Nat.reduceEqDiff, if_true, if_false]; omega) (by omega)
  · skip
    exact ro_i (v := v) (v' := v) (n := 0) (m := 0) [] false rfl (by decide) (by decide) (by decide) (by decide) (by simp only [Nat.reduceEqDiff, if_true, if_false]; omega) (by omega)
theorem ro_75 (hv : v ≤ 40) (h1 : 1 ≤ v) : RO 75 S v (rst k 75 S v) := by
  have er : rst k 75 S v = some (S, v - 1, false) := rfl
  rw [er]
  exact ro_i (v := v) (v' := v - 1) (n := 0) (m := 0) [] false rfl (by decide) (by decide) (by decide) (by decide) (by simp only [Nat.reduceEqDiff, if_true, if_false]; omega) (by omega)
theorem ro_76 (hv : v ≤ 40) : RO 76 S v (rst k 76 S v) := by
  have er : rst k 76 S v = (if k = 36 ∧ v + 1 ≤ 40 then some (S, v + 1, true) else none) := rfl
  rw [er]
  split
  · skip
    exact ro_i (v := v) (v' := v + 1) (n := 0) (m := 0) [] true rfl (by decide) (by decide) (by decide) (by decide) (by simp only [Nat.reduceEqDiff, if_true, if_false]; omega) (by omega)
  · skip
    exact Or.inl rfl
theorem ro_t {a : Nat} (ha : a < 50) (hv : v ≤ 40) : RO a S v (rst k a S v) := by
  have er : rst k a S v = if a = k then some (S, v, true) else none := by
    unfold rst
    rw [if_neg (by omega), if_pos ha]
  rw [er]
  split
  · exact ro_i (v := v) (v' := v) (n := 0) (m := 0) [] true rfl (by decide) (by decide) (by decide) (by decide) (by rw [if_neg (by omega), if_neg (by omega)]; omega) hv
  · exact Or.inl rfl
theorem so_c : ∀ a, a < 77 → (so a || a == 76) = true → a < 50 ∨ a = 75 ∨ a = 50 ∨ a = 51 ∨ a = 53 ∨ a = 54 ∨ a = 56 ∨ a = 57 ∨ a = 58 ∨ a = 59 ∨ a = 60 ∨ a = 61 ∨ a = 62 ∨ a = 63 ∨ a = 64 ∨ a = 65 ∨ a = 66 ∨ a = 67 ∨ a = 68 ∨ a = 69 ∨ a = 70 ∨ a = 71 ∨ a = 72 ∨ a = 73 ∨ a = 74 ∨ a = 76 := by
  intro a h q
  rcases Bool.or_eq_true_iff.mp q with q | q
  · have q : (decide (a < 76) && a != 52 && a != 55) = true := q
    obtain ⟨q1, q2⟩ := Bool.and_eq_true_iff.mp q
    obtain ⟨q3, q4⟩ := Bool.and_eq_true_iff.mp q1
    have n2 : a ≠ 52 := bne_iff_ne.mp q4
    have n5 : a ≠ 55 := bne_iff_ne.mp q2
    have := of_decide_eq_true q3
    omega
  · have := eq_of_beq q
    omega
theorem so_76 {a : Nat} (h : (so a || a == 76) = true) : a < 77 := by
  rcases Bool.or_eq_true_iff.mp h with q | q
  · have q : (decide (a < 76) && a != 52 && a != 55) = true := q
    have := of_decide_eq_true (Bool.and_eq_true_iff.mp (Bool.and_eq_true_iff.mp q).1).1
    omega
  · have := eq_of_beq q; omega
theorem ro_all {a : Nat} (h : (so a || a == 76) = true) (hv : v ≤ 40) (h1 : a = 75 → 1 ≤ v) : RO a S v (rst k a S v) := by
  rcases so_c a (so_76 h) h with q | q | q | q | q | q | q | q | q | q | q | q | q | q | q | q | q | q | q | q | q | q | q | q | q | q
  · exact ro_t q hv
  · have h2 := h1 q
    subst q
    exact ro_75 hv h2
  · subst q; exact ro_50 hv
  · subst q; exact ro_51 hv
  · subst q; exact ro_53 hv
  · subst q; exact ro_54 hv
  · subst q; exact ro_56 hv
  · subst q; exact ro_57 hv
  · subst q; exact ro_58 hv
  · subst q; exact ro_59 hv
  · subst q; exact ro_60 hv
  · subst q; exact ro_61 hv
  · subst q; exact ro_62 hv
  · subst q; exact ro_63 hv
  · subst q; exact ro_64 hv
  · subst q; exact ro_65 hv
  · subst q; exact ro_66 hv
  · subst q; exact ro_67 hv
  · subst q; exact ro_68 hv
  · subst q; exact ro_69 hv
  · subst q; exact ro_70 hv
  · subst q; exact ro_71 hv
  · subst q; exact ro_72 hv
  · subst q; exact ro_73 hv
  · subst q; exact ro_74 hv
  · subst q; exact ro_76 hv
theorem so_75 {a : Nat} {s : List Nat} (h : s.all so = true) : p76 s = 0 ∧ po s = true := by
  cases s with
  | nil => exact ⟨rfl, rfl⟩
  | cons b t =>
    have h : (so b && t.all so) = true := h
    obtain ⟨q1, q2⟩ := Bool.and_eq_true_iff.mp h
    refine ⟨if_neg (fun e => ?_), ?_⟩
    · have e : b = 76 := Option.some.inj e
      subst e
      cases q1
    · show ((so b || b == 76) && t.all so) = true
      rw [q1, q2]
      rfl
theorem c75_app (p s : List Nat) : c75 (p ++ s) = c75 p + c75 s := by
  induction p with
  | nil => exact (Nat.zero_add _).symm
  | cons a t ih => show (if a = 75 then 1 else 0) + c75 (t ++ s) = (if a = 75 then 1 else 0) + c75 t + c75 s; rw [ih]; omega
theorem po_c {a : Nat} {s : List Nat} (h : po (a :: s) = true) : (so a || a == 76) = true ∧ s.all so = true := Bool.and_eq_true_iff.mp h
theorem iv_75 {s : List Nat} (h : IV (75 :: s) v) : 1 ≤ v := by
  obtain ⟨h1, h2, h3⟩ := h
  have h2 : 0 + v = 1 + c75 s := h2
  omega
/-- a stack stays good -/
theorem iv_st {a : Nat} {v' : Nat} {S' : List Nat} {b : Bool} (h : IV (a :: S) v) (e : rst k a S v = some (S', v', b)) : IV S' v' ∧ S'.length ≤ S.length + 6 ∧ ∃ p, S' = p ++ S := by
  obtain ⟨q1, q2⟩ := po_c h.1
  have h3 := h.2.2
  rcases ro_all (k := k) (S := S) q1 h3 (fun q => by subst q; exact iv_75 h) with r | ⟨p, w, t, r1, r2, r3, r4, r5⟩
  · rw [r] at e; cases e
  · rw [r1] at e
    have e := Option.some.inj e
    have e1 : p ++ S = S' := congrArg (fun z => z.1) e
    have e2 : w = v' := congrArg (fun z => z.2.1) e
    subst e1 e2
    obtain ⟨z1, z2⟩ := so_75 (a := a) q2
    have h2 : p76 (a :: S) + v = c75 (a :: S) := h.2.1
    have hc : c75 (a :: S) = (if a = 75 then 1 else 0) + c75 S := rfl
    have hp : p76 (a :: S) = if a = 76 then 1 else 0 := by
      unfold p76
      by_cases c : a = 76
      · rw [if_pos c]; exact if_pos (by subst c; rfl)
      · rw [if_neg c]; exact if_neg (fun e => c (Option.some.inj e))
    refine ⟨⟨?_, ?_, r5⟩, ?_, p, rfl⟩
    · cases p with
      | nil => exact z2
      | cons x y =>
        obtain ⟨y1, y2⟩ := po_c r3
        show ((so x || x == 76) && (y ++ S).all so) = true
        rw [List.all_append, y1, y2, q2]
        rfl
    · have e3 : p76 (p ++ S) = p76 p := by
        cases p with
        | nil => exact z1
        | cons x y => rfl
      rw [e3, c75_app]
      rw [hc, hp] at h2
      omega
    · rw [List.length_append]; omega
theorem st_50 {a : Nat} {v' : Nat} {S' : List Nat} {b : Bool} (h : IV (a :: S) v) (h5 : 50 ∈ a :: S) (e : rst k a S v = some (S', v', b)) (hb : b = false ∨ k ≠ 0) : 50 ∈ S' := by
  by_cases c : a = 50
  · subst c
    have er : rst k 50 S v = if k = 0 then some (S, v, true)
    else if k = 3 ∨ k = 6 then some (51 :: 34 :: 50 :: S, v, true)
    else if k = 4 then some (1 :: 33 :: 53 :: 54 :: 34 :: 50 :: S, v, true)
    else if k = 11 then some (61 :: 34 :: 50 :: S, v, true)
    else if k = 7 ∨ k = 8 then some (61 :: 17 :: 56 :: 57 :: 34 :: 50 :: S, v, true)
    else none := rfl
    rw [er] at e
    by_cases k0 : k = 0
    · rw [if_pos k0] at e
      have e := Option.some.inj e
      have : true = b := congrArg (fun z => z.2.2) e
      subst this
      rcases hb with q | q
      · cases q
      · exact absurd k0 q
    rw [if_neg k0] at e
    repeat' split at e
    · have e1 : _ = S' := congrArg (fun z => z.1) (Option.some.inj e)
      rw [← e1]; simp
    · have e1 : _ = S' := congrArg (fun z => z.1) (Option.some.inj e)
      rw [← e1]; simp
    · have e1 : _ = S' := congrArg (fun z => z.1) (Option.some.inj e)
      rw [← e1]; simp
    · have e1 : _ = S' := congrArg (fun z => z.1) (Option.some.inj e)
      rw [← e1]; simp
    · cases e
  · obtain ⟨-, -, p, hp⟩ := iv_st h e
    rw [hp]
    rcases List.mem_cons.mp h5 with q | q
    · exact absurd q.symm c
    · exact List.mem_append_right _ q
end RST
theorem le61 {n : Nat} (h : n < 2 ^ 31) : (61 : Int32) ≤ nI n ↔ 61 ≤ n := nI_lei (a := 61) (by decide) h
theorem le50 {n : Nat} (h : n < 2 ^ 31) : (50 : Int32) ≤ nI n ↔ 50 ≤ n := nI_lei (a := 50) (by decide) h
/-- any symbol that is no word and no level -/
theorem sy_all {N k a : Nat} {σ0 σ : st_S} {S : List Nat} {v : Nat} (ha : (so a || a == 76) = true) (h5 : 50 ≤ a) (h75 : a ≠ 75) (hq : gC σ0 + 200000 < vz_M0) (hk : k < 40) (h : Wt σ S v) (f : Fx σ0 σ) (hl : S.length ≤ 10000) (hv : v ≤ 40) : ∃ σ' t, (if 61 ≤ a then F_155 N (nI a) (nI k) σ else F_149 N (nI a) (nI k) σ) = some (t, σ') ∧ Fx σ0 σ' ∧ Out (rst k a S v) t σ' := by
  rcases so_c a (so_76 ha) ha with q | q | q | q | q | q | q | q | q | q | q | q | q | q | q | q | q | q | q | q | q | q | q | q | q | q
  · omega
  · exact absurd q h75
  · subst q; rw [if_neg (by decide)]; exact sy_50 hq hk h f hl hv
  · subst q; rw [if_neg (by decide)]; exact sy_51 hq hk h f hl hv
  · subst q; rw [if_neg (by decide)]; exact sy_53 hq hk h f hl hv
  · subst q; rw [if_neg (by decide)]; exact sy_54 hq hk h f hl hv
  · subst q; rw [if_neg (by decide)]; exact sy_56 hq hk h f hl hv
  · subst q; rw [if_neg (by decide)]; exact sy_57 hq hk h f hl hv
  · subst q; rw [if_neg (by decide)]; exact sy_58 hq hk h f hl hv
  · subst q; rw [if_neg (by decide)]; exact sy_59 hq hk h f hl hv
  · subst q; rw [if_neg (by decide)]; exact sy_60 hq hk h f hl hv
  · subst q; rw [if_pos (by decide)]; exact sy_61 hq hk h f hl hv
  · subst q; rw [if_pos (by decide)]; exact sy_62 hq hk h f hl hv
  · subst q; rw [if_pos (by decide)]; exact sy_63 hq hk h f hl hv
  · subst q; rw [if_pos (by decide)]; exact sy_64 hq hk h f hl hv
  · subst q; rw [if_pos (by decide)]; exact sy_65 hq hk h f hl hv
  · subst q; rw [if_pos (by decide)]; exact sy_66 hq hk h f hl hv
  · subst q; rw [if_pos (by decide)]; exact sy_67 hq hk h f hl hv
  · subst q; rw [if_pos (by decide)]; exact sy_68 hq hk h f hl hv
  · subst q; rw [if_pos (by decide)]; exact sy_69 hq hk h f hl hv
  · subst q; rw [if_pos (by decide)]; exact sy_70 hq hk h f hl hv
  · subst q; rw [if_pos (by decide)]; exact sy_71 hq hk h f hl hv
  · subst q; rw [if_pos (by decide)]; exact sy_72 hq hk h f hl hv
  · subst q; rw [if_pos (by decide)]; exact sy_73 hq hk h f hl hv
  · subst q; rw [if_pos (by decide)]; exact sy_74 hq hk h f hl hv
  · subst q; rw [if_pos (by decide)]; exact sy_76 hq hk h f hl hv
theorem W3.fx {σ σ' : st_S} {w : List (Nat × Nat × Nat)} (h : W3 σ w) (f : Fx σ σ') : W3 σ' w := by
  obtain ⟨h1, h2, h3, h4, h5, h6⟩ := h
  have e1 := f.2.2.2.1 72 (by decide)
  have e2 := f.2.2.2.1 74 (by decide)
  have e3 := f.2.2.2.1 76 (by decide)
  exact ⟨h1.fr (f.1 71 1 (by decide)) e1.1 e1.2, h2.fr (f.1 73 1 (by decide)) e2.1 e2.2, h3.fr (f.1 75 1 (by decide)) e3.1 e3.2, by rw [e1.1]; exact h4, by rw [e2.1]; exact h5, by rw [e3.1]; exact h6⟩
/-- a symbol is taken from the stack -/
theorem wpop {N a v : Nat} {σ : st_S} {S : List Nat} (h : Wt σ (a :: S) v) (hl : S.length ≤ 10000) : ∃ σ', N_148 N 77 σ = some (nI a, σ') ∧ Wt σ' S v ∧ Fx σ σ' ∧ gI σ' 66 8 = gI σ 66 8 ∧ gN σ' = gN σ ∧ gE σ' = gE σ := by
  obtain ⟨⟨h1, h2, h3, h4⟩, h5, h6⟩ := h
  have e0 : ((a :: S).map nI).reverse = (S.map nI).reverse ++ [nI a] := by rw [List.map_cons, List.reverse_cons]
  have e1 : ((S.map nI).reverse ++ [nI a]).length = S.length + 1 := by rw [List.length_append, List.length_reverse, List.length_map]; rfl
  have e3 : (S.map nI).reverse.length = S.length := by rw [List.length_reverse, List.length_map]
  rw [e0] at h1 h2 h4
  rw [e1] at h1 h2
  have e2 : gI σ 77 1 - 1 = nI S.length := by
    rw [h1]
    exact (nI_sub (a := S.length + 1) (b := 1) (by omega)).trans (congrArg nI (by omega))
  refine ⟨st_i σ 77 1 (nI S.length), ?_, ⟨⟨?_, ?_, h3, ?_⟩, h5, ?_⟩, Fr.i _ _ (by decide), rfl, rfl, rfl⟩
  · unfold N_148
    rw [e2, if_pos (aB_nI (by show S.length < gN σ 78; omega) (by show gN σ 78 < _; omega)), nI_clamp (by omega)]
    have := h4 S.length (by rw [e1]; omega)
    rw [this]
    congr 2
    rw [List.getElem_append_right (by omega)]
    simp only [e3, Nat.sub_self, List.getElem_cons_zero]
  · rw [e3]; exact st_i_s _ _ _ _
  · rw [e3]; show S.length ≤ gN σ 78; omega
  · intro j hj
    rw [e3] at hj
    have := h4 j (by rw [e1]; omega)
    rw [List.getElem_append_left (by omega)] at this
    exact this
  · exact h6
theorem kind_at {N i : Nat} {σ : st_S} {w : List (Nat × Nat × Nat)} {q : Nat × Nat × Nat} (h : W3 σ w) (hi : w[i]? = some q) : N_139 N 71 (nI i) σ = some (nI q.1, σ) := by
  obtain ⟨⟨h1, h2, h3, h4⟩, -, -, h5, -⟩ := h
  obtain ⟨hi, e⟩ := List.getElem?_eq_some_iff.mp hi
  rw [List.length_map] at h2
  unfold N_139
  rw [if_pos (aB_nI (by show i < gN σ 72; omega) (by show gN σ 72 < _; omega)), nI_clamp (by omega), h4 i (by rw [List.length_map]; exact hi), List.getElem_map, e]
/-- a turn of the reference's loop -/
def Tn (i : Nat) (x : Option (List Nat × Nat × Bool)) (j : Int32) (σ' : st_S) : Prop := match x with
  | none => gI σ' 66 8 = nI i
  | some (S', v', t) => gI σ' 66 8 = -1 ∧ Wt σ' S' v' ∧ j = nI (if t then i + 1 else i)
theorem neg1 : ¬ (0 : Int32) ≤ -1 := by decide
theorem Wt.b {σ : st_S} {S : List Nat} {v : Nat} (h : Wt σ S v) (x : Int32) : Wt (st_i σ 66 8 x) S v := ⟨h.1.fr rfl rfl rfl, h.2.1, h.2.2⟩
theorem turn_r {N i k a v : Nat} {σ0 σ : st_S} {S : List Nat} {w : List (Nat × Nat × Nat)} {q : Nat × Nat × Nat} (hq : gC σ0 + 200000 < vz_M0) (hw : W3 σ w) (hi : w[i]? = some q) (hi' : i < 20000) (hqk : q.1 = k) (hk : k < 40) (hb : gI σ 66 8 = -1) (h : Wt σ (a :: S) v) (f : Fx σ0 σ) (hl : S.length ≤ 10000) (hv : IV (a :: S) v) : ∃ σ' j, Fx σ0 σ' ∧ Tn i (rst k a S v) j σ' ∧ ∀ K, L_147 N (K + 1) (nI i) σ = L_147 N K j σ' := by
  obtain ⟨σ1, p1, p2, p3, p4, p5, p6⟩ := wpop (N := N) h hl
  have f1 := Fr.t0 f p3
  have hw1 := hw.fx p3
  have hK := kind_at (N := N) hw1 hi
  rw [hqk] at hK
  obtain ⟨q1, q2⟩ := po_c hv.1
  have ha := so_76 q1
  have hsz : ¬ gI σ 77 1 ≤ 0 := by
    have := h.1.1
    rw [List.length_reverse, List.length_map] at this
    rw [this]
    intro z
    have z := (nI_lei (a := S.length + 1) (b := 0) (by omega) (by decide)).mp z
    omega
  have hneg : ¬ 0 ≤ gI σ 66 8 := by rw [hb]; exact neg1
  have e0 : ∀ K, L_147 N (K + 1) (nI i) σ = if nI a = 75 then L_147 N K (nI i) (st_i σ1 66 7 (gI σ1 66 7 - 1)) else if 50 ≤ nI a then (if 61 ≤ nI a then (F_155 N (nI a) (nI k) σ1).bind fun p_9 => L_147 N K (if p_9.1 ≤ 0 then nI i else (nI i + 1) : Int32) (st_i (p_9.2) 66 8 (if 0 ≤ p_9.1 then (-1) else nI i : Int32)) else (F_149 N (nI a) (nI k) σ1).bind fun p_12 => L_147 N K (if p_12.1 ≤ 0 then nI i else (nI i + 1) : Int32) (st_i (p_12.2) 66 8 (if 0 ≤ p_12.1 then (-1) else nI i : Int32))) else L_147 N K (nI i + 1) (st_i σ1 66 8 (if nI a = nI k then (-1) else nI i : Int32)) := by
    intro K
    conv => lhs; unfold L_147
    rw [if_neg hneg, if_neg hsz, p1, ob_some, hK, ob_some]
  by_cases c75' : a = 75
  · subst c75'
    have v1 := iv_75 hv
    refine ⟨st_i σ1 66 7 (nI (v - 1)), nI i, Fr.t0 f1 (Fr.i _ _ (by decide)), ⟨?_, ⟨p2.1.fr rfl rfl rfl, p2.2.1, st_i_s _ _ _ _⟩, rfl⟩, fun K => ?_⟩
    · exact p4.trans hb
    · rw [e0, if_pos (show nI 75 = 75 from rfl), p2.2.2]
      congr 2
      exact nI_sub (a := v) (b := 1) v1
  have n75 : ¬ nI a = 75 := nik (m := 75) (by omega) (by decide) c75'
  by_cases c5 : 50 ≤ a
  · obtain ⟨σ2, t, s1, s2, s3⟩ := sy_all (N := N) q1 c5 c75' hq hk p2 f1 hl hv.2.2
    have e1 : ∀ K, L_147 N (K + 1) (nI i) σ = L_147 N K (if t ≤ 0 then nI i else (nI i + 1) : Int32) (st_i σ2 66 8 (if 0 ≤ t then (-1) else nI i : Int32)) := by
      intro K
      rw [e0, if_neg n75, if_pos ((le50 (by omega)).mpr c5)]
      by_cases c6 : 61 ≤ a
      · rw [if_pos c6] at s1
        rw [if_pos ((le61 (by omega)).mpr c6), s1, ob_some]
      · rw [if_neg c6] at s1
        rw [if_neg (fun z => c6 ((le61 (by omega)).mp z)), s1, ob_some]
    refine ⟨_, _, Fr.t0 s2 (Fr.i _ _ (by decide)), ?_, e1⟩
    cases er : rst k a S v with
    | none =>
      rw [er] at s3
      have s3 : t = -1 := s3
      show gI (st_i σ2 66 8 _) 66 8 = nI i
      rw [s3, if_neg neg1]
      exact st_i_s _ _ _ _
    | some z =>
      obtain ⟨S', v', b⟩ := z
      rw [er] at s3
      cases b with
      | true =>
        obtain ⟨s4, s5⟩ := (s3 : t = 1 ∧ Wt σ2 S' v')
        subst s4
        refine ⟨?_, s5.b _, ?_⟩
        · rw [if_pos (by decide)]; exact st_i_s _ _ _ _
        · rw [if_neg (by decide), if_pos rfl]
          exact nI_1 i
      | false =>
        obtain ⟨s4, s5⟩ := (s3 : t = 0 ∧ Wt σ2 S' v')
        subst s4
        refine ⟨?_, s5.b _, ?_⟩
        · rw [if_pos (by decide)]; exact st_i_s _ _ _ _
        · rw [if_pos (by decide), if_neg (by decide)]
  · have er : rst k a S v = if a = k then some (S, v, true) else none := by
      unfold rst
      rw [if_neg c75', if_pos (by omega)]
    refine ⟨_, _, Fr.t0 f1 (Fr.i (k := 8) _ _ (by decide)), ?_, fun K => (e0 K).trans ((if_neg n75).trans (if_neg (fun z => c5 ((le50 (by omega)).mp z))))⟩
    rw [er]
    by_cases c : a = k
    · rw [if_pos c]
      refine ⟨?_, p2.b _, ?_⟩
      · rw [if_pos (congrArg nI c)]; exact st_i_s _ _ _ _
      · rw [if_pos rfl]; exact nI_1 i
    · rw [if_neg c]
      show gI (st_i σ1 66 8 _) 66 8 = nI i
      rw [if_neg (nik (by omega) (by omega) c)]
      exact st_i_s _ _ _ _
/-- a word is taken or refused -/
def Tk (k i : Nat) (o : Option (List Nat × Nat)) (j : Int32) (σ' : st_S) : Prop := match o with
  | none => gI σ' 66 8 = nI i
  | some (S', v') => gI σ' 66 8 = -1 ∧ Wt σ' S' v' ∧ IV S' v' ∧ j = nI (i + 1) ∧ (k ≠ 0 → 50 ∈ S')
theorem run_w {N i k : Nat} {σ0 : st_S} {w : List (Nat × Nat × Nat)} {q : Nat × Nat × Nat} (hq : gC σ0 + 200000 < vz_M0) (hi : w[i]? = some q) (hi' : i < 20000) (hqk : q.1 = k) (hk : k < 40) : ∀ (n : Nat) (S : List Nat) (v : Nat) (σ : st_S) (o : Option (List Nat × Nat)), W3 σ w → Fx σ0 σ → gI σ 66 8 = -1 → Wt σ S v → IV S v → 50 ∈ S → S.length + 6 * n ≤ 10000 → rx k n S v = some o → ∃ σ' j m, m ≤ n ∧ Fx σ0 σ' ∧ W3 σ' w ∧ Tk k i o j σ' ∧ ∀ K, L_147 N (K + m) (nI i) σ = L_147 N K j σ' := by
  intro n
  induction n with
  | zero => intro S v σ o hw f hb h hv h5 hl e; cases e
  | succ n ih =>
    intro S v σ o hw f hb h hv h5 hl e
    cases S with
    | nil =>
      cases h5
    | cons a S =>
      have hl : S.length + 1 + 6 * (n + 1) ≤ 10000 := hl
      obtain ⟨σ1, j, t1, t2, t3⟩ := turn_r (N := N) hq hw hi hi' hqk hk hb h f (by omega) hv
      have e : (match rst k a S v with
        | none => some none
        | some (s', v', b) => if b then some (some (s', v')) else rx k n s' v') = some o := e
      have hw1 : W3 σ1 w := by
        obtain ⟨h1, h2, h3, h4, h5, h6⟩ := hw
        have g1 := f.2.2.2.1 72 (by decide)
        have g2 := f.2.2.2.1 74 (by decide)
        have g3 := f.2.2.2.1 76 (by decide)
        have z1 := t1.2.2.2.1 72 (by decide)
        have z2 := t1.2.2.2.1 74 (by decide)
        have z3 := t1.2.2.2.1 76 (by decide)
        exact ⟨h1.fr ((t1.1 71 1 (by decide)).trans (f.1 71 1 (by decide)).symm) (z1.1.trans g1.1.symm) (z1.2.trans g1.2.symm), h2.fr ((t1.1 73 1 (by decide)).trans (f.1 73 1 (by decide)).symm) (z2.1.trans g2.1.symm) (z2.2.trans g2.2.symm), h3.fr ((t1.1 75 1 (by decide)).trans (f.1 75 1 (by decide)).symm) (z3.1.trans g3.1.symm) (z3.2.trans g3.2.symm), by rw [z1.1, ← g1.1]; exact h4, by rw [z2.1, ← g2.1]; exact h5, by rw [z3.1, ← g3.1]; exact h6⟩
      cases er : rst k a S v with
      | none =>
        rw [er] at e t2
        obtain rfl := Option.some.inj e
        exact ⟨σ1, j, 1, by omega, t1, hw1, t2, t3⟩
      | some z =>
        obtain ⟨S', v', b⟩ := z
        rw [er] at e t2
        obtain ⟨y1, y2, -⟩ := iv_st hv er
        obtain ⟨u1, u2, u3⟩ := t2
        cases b with
        | true =>
          have e : some (some (S', v')) = some o := e
          obtain rfl := Option.some.inj e
          exact ⟨σ1, j, 1, by omega, t1, hw1, ⟨u1, u2, y1, u3, fun q => st_50 hv h5 er (Or.inr q)⟩, t3⟩
        | false =>
          have e : rx k n S' v' = some o := e
          have u3 : j = nI i := u3
          subst u3
          obtain ⟨σ2, j2, m, g1, g2, g3, g4, g5⟩ := ih S' v' σ1 o hw1 t1 u1 u2 y1 (st_50 hv h5 er (Or.inl rfl)) (by omega) e
          exact ⟨σ2, j2, m + 1, by omega, g2, g3, g4, fun K => by rw [← Nat.add_assoc, t3, g5]⟩
