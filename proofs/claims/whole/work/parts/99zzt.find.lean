/-! the reference: names are found -/
section FN2
variable {N x : Nat} {σ : st_S} {l : List Int32} {w : List (Nat × Nat × Nat)} {E : List En}
theorem rd_at (hr : Rd σ x l) {i : Nat} (hi : i < l.length) : N_139 N x (nI i) σ = some (ch l i, σ) := by
  obtain ⟨a1, a2, a3, a4, a5⟩ := hr
  unfold N_139
  rw [if_pos (aB_nI (by omega) (by omega)), nI_clamp (by omega), a5 i hi]
  unfold ch
  rw [List.getD_eq_getElem?_getD, List.getElem?_eq_getElem hi]
  rfl
theorem L167r (hr : Rd σ x l) (h3 : W3 σ w) {a b n : Nat} (ha : a < w.length) (hb : b < w.length) (na : kP w a + n ≤ l.length) (nb : kP w b + n ≤ l.length) : ∀ (m i f : Nat), i + m = n → m < f → ∃ r : Int32, L_167 N x f (nI a) (nI b) (nI n) 1 (nI i) σ = some (r, σ) ∧ ((r = 1 ∧ ∀ j, i ≤ j → j < n → ch l (kP w a + j) = ch l (kP w b + j)) ∨ (r = 0 ∧ ∃ j, i ≤ j ∧ j < n ∧ ch l (kP w a + j) ≠ ch l (kP w b + j))) := by
  have h4 := hr.2.2.2.1
  intro m
  induction m with
  | zero =>
    intro i f hi hf
    obtain ⟨f, rfl⟩ : ∃ f', f = f' + 1 := ⟨f - 1, by omega⟩
    refine ⟨1, ?_, Or.inl ⟨rfl, fun j h1 h2 => by omega⟩⟩
    unfold L_167
    rw [if_pos ((nI_lei (by omega) (by omega)).mpr (by omega)), if_pos (by decide)]
  | succ m ih =>
    intro i f hi hf
    obtain ⟨f, rfl⟩ : ∃ f', f = f' + 1 := ⟨f - 1, by omega⟩
    have e1 : nI (kP w a) + nI i = nI (kP w a + i) := nI_add _ _
    have e2 : nI (kP w b) + nI i = nI (kP w b + i) := nI_add _ _
    by_cases c : ch l (kP w a + i) = ch l (kP w b + i)
    · obtain ⟨r, r1, r2⟩ := ih (i + 1) f (by omega) (by omega)
      refine ⟨r, ?_, ?_⟩
      · unfold L_167
        rw [if_neg (fun z => by have := (nI_lei (by omega) (by omega)).mp z; omega), if_neg (by decide), F159 h3 ha, ob_some]
        dsimp only
        rw [e1, rd_at hr (by omega), ob_some]
        dsimp only
        rw [F159 h3 hb, ob_some]
        dsimp only
        rw [e2, rd_at hr (by omega), ob_some]
        dsimp only
        rw [if_pos c, nI_1]
        exact r1
      · rcases r2 with ⟨z1, z2⟩ | ⟨z1, j, z2, z3, z4⟩
        · refine Or.inl ⟨z1, fun j h1 h2 => ?_⟩
          by_cases d : j = i
          · rw [d]; exact c
          · exact z2 j (by omega) h2
        · exact Or.inr ⟨z1, j, by omega, z3, z4⟩
    · refine ⟨0, ?_, Or.inr ⟨rfl, i, Nat.le_refl _, by omega, c⟩⟩
      obtain ⟨f, rfl⟩ : ∃ f', f = f' + 1 := ⟨f - 1, by omega⟩
      unfold L_167
      rw [if_neg (fun z => by have := (nI_lei (by omega) (by omega)).mp z; omega), if_neg (by decide), F159 h3 ha, ob_some]
      dsimp only
      rw [e1, rd_at hr (by omega), ob_some]
      dsimp only
      rw [F159 h3 hb, ob_some]
      dsimp only
      rw [e2, rd_at hr (by omega), ob_some]
      dsimp only
      rw [if_neg c]
      unfold L_167
      by_cases z : nI n ≤ nI i + 1
      · rw [if_pos z, if_pos (by decide)]
      · rw [if_neg z, if_pos rfl, if_pos (by decide)]
/-- two words are the same -/
theorem F167 (hN : 50000 < N) (hP : Pw l w) (hr : Rd σ x l) (h3 : W3 σ w) {a b : Nat} (ha : a < w.length) (hb : b < w.length) : F_167 N x (nI a) (nI b) σ = some ((if swd l w a b = true then 1 else 0 : Int32), σ) := by
  obtain ⟨p1, p2⟩ := hP
  obtain ⟨a1, a2⟩ := p2 a
  obtain ⟨b1, b2⟩ := p2 b
  have e1 : nI (kE w a) - nI (kP w a) = nI (kE w a - kP w a) := nI_sub a1
  have e2 : nI (kE w b) - nI (kP w b) = nI (kE w b - kP w b) := nI_sub b1
  unfold F_167
  rw [N139e h3 ha, ob_some]
  dsimp only
  rw [F159 h3 ha, ob_some]
  dsimp only
  rw [N139e h3 hb, ob_some]
  dsimp only
  rw [F159 h3 hb, ob_some]
  dsimp only
  rw [e1, e2]
  have sw : swd l w a b = (decide (kE w a - kP w a = kE w b - kP w b) && (List.range (kE w a - kP w a)).all fun j => decide (ch l (kP w a + j) = ch l (kP w b + j))) := rfl
  by_cases c : kE w b - kP w b = kE w a - kP w a
  · rw [if_pos (show nI (kE w b - kP w b) = nI (kE w a - kP w a) by rw [c])]
    obtain ⟨r, r1, r2⟩ := L167r (N := N) hr h3 ha hb (n := kE w a - kP w a) (by omega) (by omega) (kE w a - kP w a) 0 N (by omega) (by omega)
    have r1 : L_167 N x N (nI a) (nI b) (nI (kE w a - kP w a)) 1 0 σ = some (r, σ) := r1
    rw [r1]
    rcases r2 with ⟨rfl, z⟩ | ⟨rfl, j, z1, z2, z3⟩
    · rw [if_pos]
      rw [sw, decide_eq_true c.symm, Bool.true_and, List.all_eq_true]
      intro j hj
      exact decide_eq_true (z j (Nat.zero_le _) (List.mem_range.mp hj))
    · rw [if_neg]
      rw [sw, decide_eq_true c.symm, Bool.true_and, List.all_eq_true]
      intro h
      exact z3 (of_decide_eq_true (h j (List.mem_range.mpr z2)))
  · rw [if_neg (show ¬ nI (kE w b - kP w b) = nI (kE w a - kP w a) from nik (by omega) (by omega) c), if_neg (by rw [sw, decide_eq_false (fun z => c z.symm), Bool.false_and]; exact Bool.false_ne_true)]
    obtain ⟨f, rfl⟩ : ∃ f', N = f' + 1 := ⟨N - 1, by omega⟩
    unfold L_167
    by_cases z : nI (kE w a - kP w a) ≤ 0
    · rw [if_pos z, if_pos (by decide)]
    · rw [if_neg z, if_pos rfl, if_pos (by decide)]
/-- no two names are the same -/
def NU (l : List Int32) (w : List (Nat × Nat × Nat)) (E : List En) : Prop := ∀ i j, i < E.length → j < E.length → swd l w (E.getD i eN).1 (E.getD j eN).1 = true → i = j
theorem swd_iff {a b : Nat} : swd l w a b = true ↔ (kE w a - kP w a = kE w b - kP w b ∧ ∀ j, j < kE w a - kP w a → ch l (kP w a + j) = ch l (kP w b + j)) := by
  have sw : swd l w a b = (decide (kE w a - kP w a = kE w b - kP w b) && (List.range (kE w a - kP w a)).all fun j => decide (ch l (kP w a + j) = ch l (kP w b + j))) := rfl
  rw [sw, Bool.and_eq_true, decide_eq_true_eq, List.all_eq_true]
  constructor
  · rintro ⟨h1, h2⟩
    exact ⟨h1, fun j hj => of_decide_eq_true (h2 j (List.mem_range.mpr hj))⟩
  · rintro ⟨h1, h2⟩
    exact ⟨h1, fun j hj => decide_eq_true (h2 j (List.mem_range.mp hj))⟩
theorem swd_tr {a b c : Nat} (h1 : swd l w a c = true) (h2 : swd l w b c = true) : swd l w a b = true := by
  rw [swd_iff] at *
  exact ⟨h1.1.trans h2.1.symm, fun j hj => (h1.2 j hj).trans (h2.2 j (by omega)).symm⟩
/-- the names that the reference knows -/
def NR (σ : st_S) (g : Nat) (E : List En) : Prop := Nf σ 151 E.length (fun j => nI (E.getD j eN).1) ∧ Nf σ 153 E.length (fun j => nI (E.getD j eN).2.1) ∧ Nf σ 155 E.length (fun j => nI (E.getD j eN).2.2.2.2.2.2.2) ∧ gN σ (g + 14) = 60 ∧ gN σ (g + 18) = 12 ∧ E.length ≤ 72 ∧ ∀ j, j < E.length → 1 ≤ (E.getD j eN).2.1 ∧ (E.getD j eN).2.1 ≤ 3 ∧ ((E.getD j eN).2.1 = 3 → (E.getD j eN).2.2.2.2.2.2.2 < 12 ∧ gE σ (g + 18) (E.getD j eN).2.2.2.2.2.2.2 = if (E.getD j eN).2.2.1 then 1 else 0) ∧ ((E.getD j eN).2.1 ≠ 3 → (E.getD j eN).2.2.2.2.2.2.2 < 60 ∧ gE σ (g + 14) (E.getD j eN).2.2.2.2.2.2.2 = if (E.getD j eN).2.2.1 then 1 else 0)
/-- the words of names are words -/
def NW (w : List (Nat × Nat × Nat)) (E : List En) : Prop := ∀ j, j < E.length → (E.getD j eN).1 < w.length
theorem L166r (hN : 50000 < N) (hP : Pw l w) (hr : Rd σ x l) (h3 : W3 σ w) {g : Nat} (hR : NR σ g E) (hW : NW w E) (hu : NU l w E) {k : Nat} (hk : k < w.length) : ∀ (m i f : Nat) (v : Int32), i + m = E.length → m < f → (∀ j, j < E.length → swd l w (E.getD j eN).1 k = true → j < i → v = nI j) → ((∀ j, j < i → ¬ swd l w (E.getD j eN).1 k = true) → v = -1) → L_166 N x f (nI k) v (nI i) σ = some ((match fnd l w E k with
    | none => -1
    | some j => nI j : Int32), σ) := by
  have hl := hR.2.2.2.2.2.1
  intro m
  induction m with
  | zero =>
    intro i f v hi hf h1 h2
    obtain ⟨f, rfl⟩ : ∃ f', f = f' + 1 := ⟨f - 1, by omega⟩
    unfold L_166
    rw [hR.1.1, if_pos ((nI_lei (by omega) (by omega)).mpr (by omega))]
    cases hf' : fnd l w E k with
    | none =>
      dsimp only
      have hn : E.findIdx? (fun e => swd l w e.1 k) = none := hf'
      rw [h2 (fun j hj => ?_)]
      have := (List.findIdx?_eq_none_iff.mp hn) (E.getD j eN) (by
        rw [List.getD_eq_getElem?_getD, List.getElem?_eq_getElem (by omega)]
        exact List.getElem_mem (by omega))
      rw [this]
      exact Bool.false_ne_true
    | some j =>
      dsimp only
      have lt := fnd_lt hf'
      have hs : swd l w (E.getD j eN).1 k = true := by
        have hj : E.findIdx? (fun e => swd l w e.1 k) = some j := hf'
        obtain ⟨q1, q2, -⟩ := List.findIdx?_eq_some_iff_getElem.mp hj
        rw [List.getD_eq_getElem?_getD, List.getElem?_eq_getElem q1]
        exact q2
      rw [h1 j lt hs (by omega)]
  | succ m ih =>
    intro i f v hi hf h1 h2
    obtain ⟨f, rfl⟩ : ∃ f', f = f' + 1 := ⟨f - 1, by omega⟩
    have at1 : N_139 N 151 (nI i) σ = some (nI (E.getD i eN).1, σ) := nf_at hR.1 (by omega)
    unfold L_166
    rw [hR.1.1, if_neg (fun z => by have := (nI_lei (by omega) (by omega)).mp z; omega), at1, ob_some]
    dsimp only
    rw [F167 hN hP hr h3 (hW i (by omega)) hk, ob_some]
    dsimp only
    rw [nI_1]
    by_cases c : swd l w (E.getD i eN).1 k = true
    · rw [if_pos c, if_neg (by decide)]
      refine ih (i + 1) f (nI i) (by omega) (by omega) (fun j hj hs hji => ?_) (fun h => absurd c (h i (by omega)))
      rw [hu j i hj (by omega) (swd_tr hs c)]
    · rw [if_neg c, if_pos rfl]
      refine ih (i + 1) f v (by omega) (by omega) (fun j hj hs hji => ?_) (fun h => h2 (fun j hj => h j (by omega)))
      by_cases d : j = i
      · rw [d] at hs; exact absurd hs c
      · exact h1 j hj hs (by omega)
/-- a name is found -/
theorem F166 (hN : 50000 < N) (hP : Pw l w) (hr : Rd σ x l) (h3 : W3 σ w) {g : Nat} (hR : NR σ g E) (hW : NW w E) (hu : NU l w E) {k : Nat} (hk : k < w.length) : F_166 N x (nI k) σ = some ((match fnd l w E k with
    | none => -1
    | some j => nI j : Int32), σ) := by
  have hl := hR.2.2.2.2.2.1
  unfold F_166
  exact L166r hN hP hr h3 hR hW hu hk E.length 0 N (-1) (by omega) (by omega) (fun j _ _ h => by omega) (fun _ => rfl)
end FN2
