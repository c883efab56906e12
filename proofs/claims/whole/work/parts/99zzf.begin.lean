/-! the class's checker: the begin of a number -/
section VB2
variable {N : Nat} {σ σ3 : st_S} {t n : Nat} {M M3 : Nat → Nat → Int32}
theorem J82b (q : CS σ t n M) {el eh eb pb : Nat} {lo hi bg : Int32} (hel : el < n) (heh : eh < n) (heb : eb < n) (h7 : gI σ 46 7 = nI el) (h8 : gI σ 46 8 = nI eh) (h9 : gI σ 46 9 = nI eb) (e2l : M el 2 = nI (el - 1)) (e2h : M eh 2 = nI (eh - 1)) (vl : M (el - 1) 6 = lo) (vh : M (eh - 1) 6 = hi) (c : ¬ (hi < lo ∨ ¬ hi - lo < 10000)) : (∀ f, f ≠ 0 → f < 20 → F_83 N t (nI eb) σ = some (nI f, σ3) → J_82_22 N t 0 σ = some (nI f, σ3)) ∧ (CS σ3 t n M3 → gI σ3 46 9 = nI eb → M3 eb 2 = nI (eb - 1) → M3 eb 1 = nI pb → M3 (eb - 1) 6 = bg → F_83 N t (nI eb) σ = some (0, σ3) → J_82_22 N t 0 σ = if bg < lo ∨ ¬ bg ≤ hi then some (9, st_i σ3 46 4 (nI pb)) else (F_81 N t lo hi bg σ3).bind fun p => some (0, p)) := by
  have hn := q.2.1
  have l4 : aB (nI el) (gN σ (t + 4)) := q.a (c := 2) (by decide) hel
  have lg4 : gE σ (t + 4) (nI el).toNatClampNeg = nI (el - 1) := (q.g (c := 2) (by decide) hel).trans e2l
  have l8 : aB (nI (el - 1)) (gN σ (t + 8)) := q.a (c := 6) (by decide) (by omega)
  have lg8 : gE σ (t + 8) (nI (el - 1)).toNatClampNeg = lo := (q.g (c := 6) (by decide) (by omega)).trans vl
  have r4 : aB (nI eh) (gN σ (t + 4)) := q.a (c := 2) (by decide) heh
  have rg4 : gE σ (t + 4) (nI eh).toNatClampNeg = nI (eh - 1) := (q.g (c := 2) (by decide) heh).trans e2h
  have r8 : aB (nI (eh - 1)) (gN σ (t + 8)) := q.a (c := 6) (by decide) (by omega)
  have rg8 : gE σ (t + 8) (nI (eh - 1)).toNatClampNeg = hi := (q.g (c := 6) (by decide) (by omega)).trans vh
  have c1 : ¬ hi < lo := fun z => c (Or.inl z)
  have c2 : hi - lo < 10000 := Decidable.byContradiction fun z => c (Or.inr z)
  have c9 : ¬ nI eb < 0 := fun z => by have := (nI_lti (b := 0) (by omega) (by decide)).mp z; omega
  constructor
  · intro f hf hf2 hF
    have nz : ¬ nI f = 0 := nik (m := 0) (by omega) (by decide) hf
    unfold J_82_22
    rw [if_pos rfl, h7, if_pos l4, h8]
    simp only [lg4, rg4]
    rw [if_pos l8, if_pos r4, if_pos r8]
    simp only [lg8, rg8]
    rw [if_neg c1, if_pos c2, h9, if_neg c9, hF, ob_some]
    dsimp only
    rw [if_neg nz]
  · intro q3 g9 e2 e1 vb hF
    have b4 : aB (nI eb) (gN σ3 (t + 4)) := q3.a (c := 2) (by decide) heb
    have bg4 : gE σ3 (t + 4) (nI eb).toNatClampNeg = nI (eb - 1) := (q3.g (c := 2) (by decide) heb).trans e2
    have b8 : aB (nI (eb - 1)) (gN σ3 (t + 8)) := q3.a (c := 6) (by decide) (by omega)
    have bg8 : gE σ3 (t + 8) (nI (eb - 1)).toNatClampNeg = bg := (q3.g (c := 6) (by decide) (by omega)).trans vb
    have b3 : aB (nI eb) (gN σ3 (t + 3)) := q3.a (c := 1) (by decide) heb
    have bg3 : gE σ3 (t + 3) (nI eb).toNatClampNeg = nI pb := (q3.g (c := 1) (by decide) heb).trans e1
    have j162 : J_82_162 N t σ3 = some (9, st_i σ3 46 4 (nI pb)) := by
      unfold J_82_162
      rw [g9, if_pos b3, bg3]
      rfl
    unfold J_82_22
    rw [if_pos rfl, h7, if_pos l4, h8]
    simp only [lg4, rg4]
    rw [if_pos l8, if_pos r4, if_pos r8]
    simp only [lg8, rg8]
    rw [if_neg c1, if_pos c2, h9, if_neg c9, hF, ob_some]
    dsimp only
    rw [if_pos rfl, g9, if_pos b4]
    simp only [bg4]
    rw [if_pos b8]
    simp only [bg8, j162]
    by_cases z1 : bg < lo
    · rw [if_pos z1, if_pos (Or.inl z1)]
    · rw [if_neg z1]
      by_cases z2 : bg ≤ hi
      · rw [if_pos z2, if_neg (fun z => by rcases z with z | z; exact z1 z; exact z z2)]
      · rw [if_neg z2, if_pos (Or.inr z2)]
end VB2
