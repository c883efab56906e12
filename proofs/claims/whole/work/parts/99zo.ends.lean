/-! the class's checker: the end of a rule -/
/-- the node behind an item's rules -/
def lyn (h : Nat) : List (Nat × Tr) → Nat
  | [] => h + 1
  | (r, T) :: R => lyn h R + mk r + tln T + 1
theorem Lay.lyn {l : List Int32} {w : List (Nat × Nat × Nat)} {M : Nat → Nat → Int32} {op k h : Nat} : ∀ {R : List (Nat × Tr)} {n : Nat}, Lay l w M op k h R n → n = lyn h R := by
  intro R
  induction R with
  | nil => intro n q; exact q.2
  | cons x R ih =>
    obtain ⟨r, T⟩ := x
    intro n q
    obtain ⟨n1, q1, -, -, -, -, q2⟩ := q
    rw [q2, ih q1]
    rfl
/-- the end of the latest rule of a role -/
def ren (h : Nat) : List (Nat × Tr) → Nat → Option Nat
  | [], _ => none
  | (r, T) :: R, ρ => if r = ρ then some (lyn h R + mk r + tln T) else ren h R ρ
section EN
variable {N : Nat} {σ : st_S} {t n : Nat} {M : Nat → Nat → Int32}
/-- what a rule's end sets -/
def eff (σ : st_S) (t r i h b s : Nat) : st_S := if r = 1 then st_i σ 46 7 (nI i) else if r = 2 then st_i σ 46 8 (nI i) else if r = 3 then st_i σ 46 9 (nI i) else if r = 5 then st_e σ (t + 5) h (nI i) else if r = 6 then st_e σ (t + 4) b (nI i) else if r = 7 then st_e σ (t + 5) s (nI i) else st_i σ 46 6 (nI i)
theorem J85' (q : CS σ t n M) {i r h b s : Nat} (hr : r < 8) (h5 : gI σ 46 5 = nI h) (hh : h < n) (hb : r = 6 → gI σ 46 10 = nI b ∧ b < n) (hs : r = 7 → gI σ 46 12 = nI s ∧ s < n) : J_85_44 N t (nI i) (nI r) σ = some (0, eff σ t r i h b s) := by
  have hn := q.2.1
  unfold J_85_44 eff
  by_cases c1 : r = 1
  · rw [if_pos c1, if_pos (show nI r = 1 by rw [c1]; rfl)]
  rw [if_neg c1, if_neg (show ¬ nI r = 1 from nik (m := 1) (by omega) (by decide) c1)]
  by_cases c2 : r = 2
  · rw [if_pos c2, if_pos (show nI r = 2 by rw [c2]; rfl)]
  rw [if_neg c2, if_neg (show ¬ nI r = 2 from nik (m := 2) (by omega) (by decide) c2)]
  by_cases c3 : r = 3
  · rw [if_pos c3, if_pos (show nI r = 3 by rw [c3]; rfl)]
  rw [if_neg c3, if_neg (show ¬ nI r = 3 from nik (m := 3) (by omega) (by decide) c3)]
  by_cases c5 : r = 5
  · have a5 : aB (nI h) (gN σ (t + 5)) := q.a (c := 3) (by decide) hh
    rw [if_pos c5, if_pos (show nI r = 5 by rw [c5]; rfl), h5, if_pos a5, nI_clamp (by omega)]
  rw [if_neg c5, if_neg (show ¬ nI r = 5 from nik (m := 5) (by omega) (by decide) c5)]
  by_cases c6 : r = 6
  · obtain ⟨g, hb⟩ := hb c6
    have a5 : aB (nI b) (gN σ (t + 4)) := q.a (c := 2) (by decide) hb
    rw [if_pos c6, if_pos (show nI r = 6 by rw [c6]; rfl), g, if_pos a5, nI_clamp (by omega)]
  rw [if_neg c6, if_neg (show ¬ nI r = 6 from nik (m := 6) (by omega) (by decide) c6)]
  by_cases c7 : r = 7
  · obtain ⟨g, hs⟩ := hs c7
    have a5 : aB (nI s) (gN σ (t + 5)) := q.a (c := 3) (by decide) hs
    rw [if_pos c7, if_pos (show nI r = 7 by rw [c7]; rfl), g, if_pos a5, nI_clamp (by omega)]
  rw [if_neg c7, if_neg (show ¬ nI r = 7 from nik (m := 7) (by omega) (by decide) c7)]
theorem F86' (q : CS σ t n M) {r h s x kv kh : Nat} (hr : r < 8) (h5 : gI σ 46 5 = nI h) (hh : h < n) (h3 : r = 3 → M h 4 = nI kh) (hs : r = 7 → gI σ 46 12 = nI s ∧ s < n ∧ M s 2 = nI x ∧ x < 12 ∧ gN σ (t + 13) = 12 ∧ gE σ (t + 13) x = nI kv) : F_86 N t (nI r) σ = some (nI (if r = 1 ∨ r = 2 ∨ r = 6 then 1 else if r = 3 then kh else if r = 4 ∨ r = 5 then 2 else if r = 7 then kv else 0), σ) := by
  have hn := q.2.1
  unfold F_86
  have r8 : r = 0 ∨ r = 1 ∨ r = 2 ∨ r = 3 ∨ r = 4 ∨ r = 5 ∨ r = 6 ∨ r = 7 := by omega
  rcases r8 with rfl | rfl | rfl | rfl | rfl | rfl | rfl | rfl
  · rfl
  · rfl
  · rfl
  · have a6 : aB (nI h) (gN σ (t + 6)) := q.a (c := 4) (by decide) hh
    have g6 : gE σ (t + 6) (nI h).toNatClampNeg = nI kh := (q.g (c := 4) (by decide) hh).trans (h3 rfl)
    rw [if_neg (by decide), if_neg (by decide), if_pos (by decide), h5, if_pos a6, g6, if_neg (by decide), if_pos rfl]
  · rfl
  · rfl
  · rfl
  · obtain ⟨s1, s2, s3, s4, s5, s6⟩ := hs rfl
    have a4 : aB (nI s) (gN σ (t + 4)) := q.a (c := 2) (by decide) s2
    have g4 : gE σ (t + 4) (nI s).toNatClampNeg = nI x := (q.g (c := 2) (by decide) s2).trans s3
    have a13 : aB (nI x) (gN σ (t + 13)) := by rw [s5]; exact aB_nI s4 (by decide)
    rw [if_neg (by decide), if_neg (by decide), if_neg (by decide), if_neg (by decide), if_neg (by decide), if_neg (by decide), if_pos (by decide), s1, if_pos a4, g4, if_pos a13, nI_clamp (by omega), s6]
    rfl
/-- a rule's end -/
theorem re_ok (q : CS σ t n M) {i r h b s pl kd wk : Nat} (hi : i < n) (hi0 : 1 ≤ i) (e0 : M i 0 = nI 26) (e1 : M i 1 = nI pl) (e2 : M i 2 = nI (i - 1)) (e3 : M i 3 = nI r) (ek : M (i - 1) 5 = nI kd) (hkd : kd < 3) (hwk : wk < 3) (hr : r < 8) (h5 : gI σ 46 5 = nI h) (hh : h < n) (hb : r = 6 → gI σ 46 10 = nI b ∧ b < n) (hs : r = 7 → gI σ 46 12 = nI s ∧ s < n) (h86 : F_86 N t (nI r) σ = some (nI wk, σ)) : (¬ (wk = 0 ∨ kd = wk) → ∃ σ', Sft N t σ i 1 3 σ' ∧ gI σ' 46 4 = nI pl ∧ F6 σ σ') ∧ ((wk = 0 ∨ kd = wk) → Sgo N t σ i (eff σ t r i h b s) 1) := by
  have a2 : aB (nI i) (gN σ (t + 2)) := q.a (c := 0) (by decide) hi
  have a3 : aB (nI i) (gN σ (t + 3)) := q.a (c := 1) (by decide) hi
  have a5 : aB (nI i) (gN σ (t + 5)) := q.a (c := 3) (by decide) hi
  have g2 : gE σ (t + 2) (nI i).toNatClampNeg = nI 26 := (q.g (c := 0) (by decide) hi).trans e0
  have g3 : gE σ (t + 3) (nI i).toNatClampNeg = nI pl := (q.g (c := 1) (by decide) hi).trans e1
  have g5 : gE σ (t + 5) (nI i).toNatClampNeg = nI r := (q.g (c := 3) (by decide) hi).trans e3
  have l53 := fun k' => L53h (N := N) (k := k') q hi (by decide) (by decide) e0
  have f63 := F63' (N := N) q hi (show i - 1 < n by omega) e2
  have j85 := J85' (N := N) (i := i) q hr h5 hh hb hs
  have f84 : F_84 N t (nI i) σ = if wk = 0 ∨ kd = wk then some (0, eff σ t r i h b s) else some (3, st_i σ 46 4 (nI pl)) := by
    unfold F_84 F_85
    rw [if_pos a2]
    simp only [g2]
    rw [if_pos (show nI 26 = 26 from rfl), if_pos a5]
    simp only [g5]
    rw [h86, ob_some]
    dsimp only
    by_cases c : wk = 0
    · rw [if_pos (show nI wk = 0 by rw [c]; rfl), j85, if_pos (Or.inl c)]
      rfl
    · rw [if_neg (show ¬ nI wk = 0 from nik (m := 0) (by omega) (by decide) c), f63, ob_some]
      dsimp only
      rw [ek]
      by_cases c2 : kd = wk
      · rw [if_pos (show nI kd = nI wk by rw [c2]), j85, if_pos (Or.inr c2)]
        rfl
      · rw [if_neg (show ¬ nI kd = nI wk from nik (by omega) (by omega) c2), if_pos a3, g3, if_neg (by omega)]
        rfl
  constructor
  · intro c
    rw [if_neg c] at f84
    refine ⟨_, fun k' => ?_, by rw [gI_i, if_pos ⟨rfl, rfl⟩], F6.i _ _ (by omega)⟩
    rw [l53, f84, ob_some]
    rfl
  · intro c k'
    rw [if_pos c] at f84
    rw [l53, f84, ob_some]
    rfl
end EN
