/-! the class's parser and its pure state go together -/
/-- what an entry will still cost -/
def cst1 (a : Nat) : Nat := if a = 35 then 0 else 2
def csts : List Nat → Nat
  | [] => 0
  | a :: s => cst1 a + csts s
def ops (W : List (Nat → Int32)) : List Int32 := W.map fun e => e 0
theorem hI_nI : ∀ a, a < 40 → hI (nI a) = nI (hol a) := by decide
def sm (s : List Nat) : Bool := s.all fun a => decide (a < 40)
/-- the waiting entries are these operations, their jumps are nodes -/
def WS (W : List (Nat → Int32)) (s : List Nat) (n : Nat) : Prop := ops W = s.map nI ∧ sm s = true ∧ ∀ e ∈ W, jok e n ∧ (e 0 = 36 → ∃ j, j < n ∧ e 4 = nI j)
theorem WS.len {W : List (Nat → Int32)} {s : List Nat} {n : Nat} (h : WS W s n) : W.length = s.length := by
  have := congrArg List.length h.1
  rw [ops, List.length_map, List.length_map] at this
  exact this
theorem WS.mo {W : List (Nat → Int32)} {s : List Nat} {n m : Nat} (h : WS W s n) (q : n ≤ m) : WS W s m := ⟨h.1, h.2.1, fun e he => ⟨(h.2.2 e he).1.mo q, fun z => by obtain ⟨j, j1, j2⟩ := (h.2.2 e he).2 z; exact ⟨j, by omega, j2⟩⟩⟩
theorem WS.c {e : Nat → Int32} {W : List (Nat → Int32)} {s : List Nat} {n : Nat} (h : WS (e :: W) s n) : ∃ a s', s = a :: s' ∧ e 0 = nI a ∧ a < 40 ∧ WS W s' n ∧ jok e n ∧ (e 0 = 36 → ∃ j, j < n ∧ e 4 = nI j) := by
  obtain ⟨h1, h2, h3⟩ := h
  cases s with
  | nil => cases h1
  | cons a s' =>
    have h1 : e 0 :: ops W = nI a :: s'.map nI := h1
    have h2 : (decide (a < 40) && sm s') = true := h2
    obtain ⟨q1, q2⟩ := Bool.and_eq_true_iff.mp h2
    injection h1 with y1 y2
    exact ⟨a, s', rfl, y1, of_decide_eq_true q1, ⟨y2, q2, fun e' he => h3 e' (List.mem_cons_of_mem _ he)⟩, (h3 e List.mem_cons_self).1, (h3 e List.mem_cons_self).2⟩
theorem WS.nil {s : List Nat} {n : Nat} (h : WS [] s n) : s = [] := by
  cases s with
  | nil => rfl
  | cons a s => cases h.1
theorem WS.i {e : Nat → Int32} {W : List (Nat → Int32)} {s : List Nat} {n a : Nat} (h : WS W s n) (he : e 0 = nI a) (ha : a < 40) (hj : jok e n) (hq : e 0 = 36 → ∃ j, j < n ∧ e 4 = nI j) : WS (e :: W) (a :: s) n := by
  refine ⟨?_, ?_, fun e' h' => ?_⟩
  · show e 0 :: ops W = nI a :: s.map nI
    rw [he, h.1]
  · show (decide (a < 40) && sm s) = true
    rw [decide_eq_true ha, h.2.1]; rfl
  · rcases List.mem_cons.mp h' with z | z
    · subst z; exact ⟨hj, hq⟩
    · exact h.2.2 e' z
theorem hol_35 {a : Nat} (h : 1 ≤ hol a) : a ≠ 35 := fun e => by subst e; exact absurd h (by decide)
/-- building, on both sides -/
theorem bld {h : Nat} (h1 : 1 ≤ h) (h8 : h < 100) : ∀ (W : List (Nat → Int32)) (s : List Nat) (p : Nat → Int32) (n : Nat) (M : Nat → Nat → Int32) (v : Nat), WS W s n → p 12 = nI v → lb s ≤ v → v < 1000 → ∃ p' W' n' M', xb (nI h) W p n M = (p', W', n', M') ∧ WS W' (bl h v s).2 n' ∧ p' 12 = nI (bl h v s).1 ∧ 2 * n' + csts (bl h v s).2 = 2 * n + csts s ∧ n ≤ n' ∧ (∀ k, k ≠ 12 → k ≠ 13 → p' k = p k) ∧ lb (bl h v s).2 + v = lb s + (bl h v s).1 := by
  intro W
  induction W with
  | nil =>
    intro s p n M v hw hp hl hv
    obtain rfl := hw.nil
    exact ⟨p, [], n, M, rfl, hw, hp, rfl, Nat.le_refl _, fun _ _ _ => rfl, rfl⟩
  | cons e W ih =>
    intro s p n M v hw hp hl hv
    obtain ⟨a, s', rfl, e0, ha, hw', hj, hq⟩ := hw.c
    have ex : xb (nI h) (e :: W) p n M = if hI (e 0) < nI h then (p, e :: W, n, M) else xb (nI h) W (bpp e p n) (n + 1) (bMM e p n M) := rfl
    have eb : bl h v (a :: s') = if h ≤ hol a then bl h (if a = 9 ∨ a = 16 ∨ a = 19 then v - 1 else v) s' else (v, a :: s') := rfl
    have h9 := hol_le a
    rw [ex, eb, e0, hI_nI a ha]
    by_cases c : h ≤ hol a
    · rw [if_neg (fun q => by have := (nI_lti (by omega) (by omega)).mp q; omega), if_pos c]
      have hb : lb (a :: s') = (if a = 9 ∨ a = 16 ∨ a = 19 ∨ a = 36 ∨ a = 35 ∨ a = 20 ∨ a = 21 then 1 else 0) + lb s' := rfl
      have ha36 : ¬ (a = 36 ∨ a = 35 ∨ a = 20 ∨ a = 21) := by
        rintro (z | z | z | z) <;> subst z <;> exact absurd c (by show ¬ h ≤ 0; omega)
      have hc : csts (a :: s') = 2 + csts s' := by
        show cst1 a + csts s' = _
        rw [show cst1 a = 2 from if_neg (hol_35 (by omega))]
      have n16 : (e 0 = 16) ↔ a = 16 := by rw [e0]; exact nI_eq (a := a) (b := 16) (by omega) (by decide)
      have n9 : (e 0 = 9) ↔ a = 9 := by rw [e0]; exact nI_eq (a := a) (b := 9) (by omega) (by decide)
      have n19 : (e 0 = 19) ↔ a = 19 := by rw [e0]; exact nI_eq (a := a) (b := 19) (by omega) (by decide)
      have p12 : bpp e p n 12 = nI (if a = 9 ∨ a = 16 ∨ a = 19 then v - 1 else v) := by
        unfold bpp
        by_cases q : a = 9 ∨ a = 16 ∨ a = 19
        · have v1 : 1 ≤ v := by rw [hb, if_pos (by omega)] at hl; omega
          have vv : p 12 - 1 = nI (v - 1) := by rw [hp]; exact nI_sub (a := v) (b := 1) v1
          rw [if_pos q]
          rcases q with q | q | q
          · rw [if_neg (fun z => by have := n16.mp z; omega), if_pos (n9.mpr q)]; exact vv
          · rw [if_pos (n16.mpr q)]; exact vv
          · rw [if_neg (fun z => by have := n16.mp z; omega), if_neg (fun z => by have := n9.mp z; omega), if_pos (n19.mpr q)]; exact vv
        · rw [if_neg q, if_neg (fun z => q (Or.inr (Or.inl (n16.mp z)))), if_neg (fun z => q (Or.inl (n9.mp z))), if_neg (fun z => q (Or.inr (Or.inr (n19.mp z))))]
          exact hp
      have pk : ∀ k, k ≠ 12 → k ≠ 13 → bpp e p n k = p k := by
        intro k k1 k2
        unfold bpp
        repeat' split
        all_goals simp [up, k1, k2]
      have hl' : lb s' ≤ (if a = 9 ∨ a = 16 ∨ a = 19 then v - 1 else v) := by
        rw [hb] at hl
        by_cases q : a = 9 ∨ a = 16 ∨ a = 19
        · rw [if_pos q]; rw [if_pos (by omega)] at hl; omega
        · rw [if_neg q]; rw [if_neg (by omega)] at hl; omega
      obtain ⟨p', W', n', M', z1, z2, z3, z4, z5, z6, z7⟩ := ih s' (bpp e p n) (n + 1) (bMM e p n M) _ (hw'.mo (Nat.le_succ n)) p12 hl' (by split <;> omega)
      refine ⟨p', W', n', M', z1, z2, z3, by rw [hc]; omega, by omega, fun k k1 k2 => (z6 k k1 k2).trans (pk k k1 k2), ?_⟩
      rw [hb]
      by_cases q : a = 9 ∨ a = 16 ∨ a = 19
      · have v1 : 1 ≤ v := by rw [hb, if_pos (by omega)] at hl; omega
        rw [if_pos q] at z7 ⊢
        rw [if_pos (by omega)]
        omega
      · rw [if_neg q] at z7 ⊢
        rw [if_neg (by omega)]
        omega
    · rw [if_pos ((nI_lti (by omega) (by omega)).mpr (by omega)), if_neg c]
      exact ⟨p, e :: W, n, M, rfl, hw, hp, rfl, Nat.le_refl _, fun _ _ _ => rfl, rfl⟩
