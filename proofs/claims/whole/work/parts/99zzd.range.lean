/-! the class's checker: the range of a number -/
section VR2
variable {N : Nat} {σ : st_S} {t n : Nat} {M : Nat → Nat → Int32}
theorem J82f (q : CS σ t n M) {el eh ph : Nat} {lo hi : Int32} (hel : el < n) (heh : eh < n) (h7 : gI σ 46 7 = nI el) (h8 : gI σ 46 8 = nI eh) (e2l : M el 2 = nI (el - 1)) (e2h : M eh 2 = nI (eh - 1)) (e1h : M eh 1 = nI ph) (vl : M (el - 1) 6 = lo) (vh : M (eh - 1) 6 = hi) : ((hi < lo ∨ ¬ hi - lo < 10000) → J_82_22 N t 0 σ = some (9, st_i σ 46 4 (nI ph))) ∧ (¬ (hi < lo ∨ ¬ hi - lo < 10000) → gI σ 46 9 < 0 → J_82_22 N t 0 σ = (F_81 N t lo hi lo σ).bind fun p => some (0, p)) := by
  have l4 : aB (nI el) (gN σ (t + 4)) := q.a (c := 2) (by decide) hel
  have lg4 : gE σ (t + 4) (nI el).toNatClampNeg = nI (el - 1) := (q.g (c := 2) (by decide) hel).trans e2l
  have l8 : aB (nI (el - 1)) (gN σ (t + 8)) := q.a (c := 6) (by decide) (by omega)
  have lg8 : gE σ (t + 8) (nI (el - 1)).toNatClampNeg = lo := (q.g (c := 6) (by decide) (by omega)).trans vl
  have r4 : aB (nI eh) (gN σ (t + 4)) := q.a (c := 2) (by decide) heh
  have rg4 : gE σ (t + 4) (nI eh).toNatClampNeg = nI (eh - 1) := (q.g (c := 2) (by decide) heh).trans e2h
  have r8 : aB (nI (eh - 1)) (gN σ (t + 8)) := q.a (c := 6) (by decide) (by omega)
  have rg8 : gE σ (t + 8) (nI (eh - 1)).toNatClampNeg = hi := (q.g (c := 6) (by decide) (by omega)).trans vh
  have r3 : aB (nI eh) (gN σ (t + 3)) := q.a (c := 1) (by decide) heh
  have rg3 : gE σ (t + 3) (nI eh).toNatClampNeg = nI ph := (q.g (c := 1) (by decide) heh).trans e1h
  have j84 : J_82_84 N t σ = some (9, st_i σ 46 4 (nI ph)) := by
    unfold J_82_84
    rw [h8, if_pos r3, rg3]
    rfl
  constructor
  · intro c
    unfold J_82_22
    rw [if_pos rfl, h7, if_pos l4, h8]
    simp only [lg4, rg4]
    rw [if_pos l8, if_pos r4, if_pos r8]
    simp only [lg8, rg8, j84]
    by_cases c1 : hi < lo
    · rw [if_pos c1]
    · rw [if_neg c1]
      have c2 : ¬ hi - lo < 10000 := by
        rcases c with z | z
        · exact absurd z c1
        · exact z
      rw [if_neg c2]
  · intro c h9
    have c1 : ¬ hi < lo := fun z => c (Or.inl z)
    have c2 : hi - lo < 10000 := Decidable.byContradiction fun z => c (Or.inr z)
    unfold J_82_22
    rw [if_pos rfl, h7, if_pos l4, h8]
    simp only [lg4, rg4]
    rw [if_pos l8, if_pos r4, if_pos r8]
    simp only [lg8, rg8, j84]
    rw [if_neg c1, if_pos c2, if_pos h9]
theorem sbd2 {α β γ : Type} (x : Rs α) (y : Rs β) (g : α → β → Rs γ) : (sbd x fun a => sbd y fun b => g a b) = sbd (sbd x fun a => sbd y fun b => (.inr (a, b) : Rs (α × β))) fun p => g p.1 p.2 := by
  cases x with
  | inl e => rfl
  | inr a => cases y <;> rfl
end VR2
