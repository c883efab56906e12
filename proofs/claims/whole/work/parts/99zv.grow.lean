/-! one more name -/
section GR
variable {l : List Int32} {w : List (Nat × Nat × Nat)} {E : List En} {e : En} {X X' fs : Nat → Nat} {M : Nat → Nat → Int32} {co : Bool}
theorem fnd_app {k j : Nat} (h : fnd l w E k = some j) : fnd l w (E ++ [e]) k = some j := by
  unfold fnd at h ⊢
  rw [List.findIdx?_append, h]
  rfl
theorem fnd_new {k : Nat} (h : fnd l w E k = none) (hs : swd l w e.1 k = true) : fnd l w (E ++ [e]) k = some E.length := by
  unfold fnd at h ⊢
  rw [List.findIdx?_append, h]
  show (List.findIdx? (fun e => swd l w e.1 k) [e]).map (fun i => i + E.length) = _
  rw [List.findIdx?_cons, hs]
  simp
theorem gD_app {j : Nat} (h : j < E.length) : (E ++ [e]).getD j eN = E.getD j eN := by
  rw [List.getD_eq_getElem?_getD, List.getD_eq_getElem?_getD, List.getElem?_append_left h]
theorem gD_new : (E ++ [e]).getD E.length eN = e := by
  rw [List.getD_eq_getElem?_getD, List.getElem?_append_right (Nat.le_refl _), Nat.sub_self]
  rfl
theorem len_app : (E ++ [e]).length = E.length + 1 := by rw [List.length_append]; rfl
theorem cnt_app (s : Nat) : cnt (E ++ [e]) s = cnt E s + if e.2.1 = s then 1 else 0 := by
  unfold cnt
  rw [List.filter_append, List.length_append]
  congr 1
  by_cases c : e.2.1 = s
  · rw [if_pos c, List.filter_cons_of_pos (by simpa using c)]; rfl
  · rw [if_neg c, List.filter_cons_of_neg (by simpa using c)]; rfl
theorem chk_app : ∀ {T : Tr} {kd : Nat}, chk l w E co T = .inr kd → chk l w (E ++ [e]) co T = .inr kd := by
  intro T
  induction T with
  | leaf k =>
    intro kd h
    unfold chk at h ⊢
    by_cases c2 : kK w k = 2
    · rw [if_pos c2] at h ⊢; exact h
    rw [if_neg c2] at h ⊢
    by_cases c1 : kK w k = 1
    · rw [if_pos c1] at h ⊢
      unfold chn at h ⊢
      cases hf : fnd l w E k with
      | none => rw [hf] at h; cases h
      | some j =>
        rw [hf] at h
        rw [fnd_app hf]
        dsimp only at h ⊢
        rw [gD_app (fnd_lt hf)]
        exact h
    · rw [if_neg c1] at h ⊢; exact h
  | branch n l' r il ir =>
    intro kd h
    unfold chk at h ⊢
    by_cases cu : un (n % 64) = true
    · rw [if_pos cu] at h ⊢
      obtain ⟨a, h1, h2⟩ := sbd_i h
      rw [ir h1]
      exact h2
    · rw [if_neg cu] at h ⊢
      obtain ⟨a, h1, h2⟩ := sbd_i h
      obtain ⟨b, h3, h4⟩ := sbd_i h2
      rw [il h1, sbd_r, ir h3]
      exact h4
theorem Cr_app {T : Tr} {a : Nat} (hX : ∀ j, j < E.length → X' j = X j) (h : Cr l w E X M T a) : Cr l w (E ++ [e]) X' M T a := by
  refine ⟨Code.mono (fun _ _ _ _ _ _ z => z) (fun _ _ _ _ z => z) (fun k i z => ?_) T a h.1, h.2⟩
  rcases z with z | z | z | ⟨z1, j, z2, z3, z⟩
  · exact Or.inl z
  · exact Or.inr (Or.inl z)
  · exact Or.inr (Or.inr (Or.inl z))
  · exact Or.inr (Or.inr (Or.inr ⟨z1, j, fnd_app z2, by rw [len_app]; omega, by rw [gD_app z3, hX j z3]; exact z⟩))
theorem NBl_app {m : Nat} : ∀ {T : Tr}, NBl l w E m T → NBl l w (E ++ [e]) m T := by
  intro T
  induction T with
  | leaf k =>
    intro h k1
    obtain ⟨j, z1, z2⟩ := h k1
    exact ⟨j, fnd_app z1, z2⟩
  | branch n l' r il ir => intro h; exact ⟨fun z => il (h.1 z), ir h.2⟩
/-- names that are known -/
theorem chk_nbl : ∀ {T : Tr} {kd : Nat}, Wf w T → chk l w E co T = .inr kd → NBl l w E E.length T := by
  intro T
  induction T with
  | leaf k =>
    intro kd hW h k1
    unfold chk at h
    rw [if_neg (by omega), if_pos k1] at h
    unfold chn at h
    cases hf : fnd l w E k with
    | none => rw [hf] at h; cases h
    | some j => exact ⟨j, rfl, fnd_lt hf⟩
  | branch p l' r il ir =>
    intro kd hW h
    obtain ⟨hWl, hWr, -⟩ := hW
    unfold chk at h
    by_cases cu : un (p % 64) = true
    · rw [if_pos cu] at h
      obtain ⟨ka, k1, -⟩ := sbd_i h
      exact ⟨fun z => absurd (cu.symm.trans z) (by decide), ir hWr k1⟩
    · rw [if_neg cu] at h
      have cu : un (p % 64) = false := by simpa using cu
      obtain ⟨ka, k1, h⟩ := sbd_i h
      obtain ⟨kb, k2, -⟩ := sbd_i h
      exact ⟨fun _ => il (hWl cu) k1, ir hWr k2⟩
/-- a point more -/
def upf (X : Nat → Nat) (n x : Nat) : Nat → Nat := fun j => if j = n then x else X j
theorem upf_o {n x j : Nat} (h : j ≠ n) : upf X n x j = X j := if_neg h
theorem upf_s {n x : Nat} : upf X n x n = x := if_pos rfl
theorem fTr_app {j : Nat} (h : j < E.length) : fTr (E ++ [e]) j = fTr E j := by
  unfold fTr
  rw [gD_app h]
theorem fTr_new : fTr (E ++ [e]) E.length = e.2.2.2.1 := by
  unfold fTr
  rw [gD_new]
theorem Cok_app (h : Cok E) (he : e.2.1 = 1 → okv (if e.2.2.1 then 2 else 1) e.2.2.2.2.1) : Cok (E ++ [e]) := by
  intro j hj s1
  rw [len_app] at hj
  by_cases c : j = E.length
  · subst c
    rw [gD_new] at s1 ⊢
    exact he s1
  · rw [gD_app (by omega)] at s1 ⊢
    exact h j (by omega) s1
theorem EXm_app {h x f : Nat} (q : EXm M E X fs h) (he : (e.2.1 = 1 ∧ x < h ∧ M x 5 = nI (kdn e) ∧ M x 6 = e.2.2.2.2.1.1.toInt32 ∧ M x 7 = bl1 e.2.2.2.2.1.2) ∨ (e.2.1 = 2 ∧ x < 60 ∧ f + tln e.2.2.2.1 < h ∧ M (f + tln e.2.2.2.1) 2 = nI (f + tln e.2.2.2.1 - 1) ∧ M (f + tln e.2.2.2.1 - 1) 5 = nI (kdn e)) ∨ e.2.1 = 3) : EXm M (E ++ [e]) (upf X E.length x) (upf fs E.length f) h := by
  intro j hj
  rw [len_app] at hj
  by_cases c : j = E.length
  · subst c
    rw [gD_new, upf_s, upf_s, fTr_new]
    exact he
  · rw [gD_app (by omega), upf_o c, upf_o c, fTr_app (by omega)]
    exact q j (by omega)
theorem EXm.mo {h h' : Nat} (q : EXm M E X fs h) (hh : h ≤ h') : EXm M E X fs h' := by
  intro j hj
  rcases q j hj with ⟨z1, z2, z3⟩ | ⟨z1, z2, z3, z4⟩ | z
  · exact Or.inl ⟨z1, by omega, z3⟩
  · exact Or.inr (Or.inl ⟨z1, z2, by omega, z4⟩)
  · exact Or.inr (Or.inr z)
/-- what is fixed of the names, with one more -/
theorem SF_app {h x f : Nat} (q : SF l w E X fs) (hE : EXm M E X fs h) (h3 : e.2.1 = 3 → x < 12 ∧ x = e.2.2.2.2.2.2.1) (h2 : e.2.1 = 2 → x < 60 ∧ Wf w e.2.2.2.1 ∧ lev e.2.2.2.1 ≤ 6 ∧ NBl l w E E.length e.2.2.2.1 ∧ chk l w E false e.2.2.2.1 = .inr (kdn e) ∧ h ≤ f ∧ (∀ j, j < E.length → (E.getD j eN).2.1 = 2 → X j ≠ x)) : SF l w (E ++ [e]) (upf X E.length x) (upf fs E.length f) := by
  obtain ⟨q1, q2, q3⟩ := q
  refine ⟨fun j hj s => ?_, fun j hj s => ?_, fun i j hi hj si sj ne => ?_⟩
  · rw [len_app] at hj
    by_cases c : j = E.length
    · subst c
      rw [gD_new] at s ⊢
      rw [upf_s]
      exact h3 s
    · rw [gD_app (by omega)] at s ⊢
      rw [upf_o c]
      exact q1 j (by omega) s
  · rw [len_app] at hj
    by_cases c : j = E.length
    · subst c
      rw [gD_new] at s
      obtain ⟨z1, z2, z3, z4, z5, -⟩ := h2 s
      rw [upf_s, fTr_new, gD_new]
      exact ⟨z1, z2, z3, NBl_app z4, chk_app z5⟩
    · rw [gD_app (by omega)] at s
      obtain ⟨z1, z2, z3, z4, z5⟩ := q2 j (by omega) s
      rw [upf_o c, fTr_app (by omega), gD_app (by omega)]
      exact ⟨z1, z2, z3, NBl_app z4, chk_app z5⟩
  · rw [len_app] at hi hj
    have old : ∀ j, j < E.length → (E.getD j eN).2.1 = 2 → fs j + tln (fTr E j) < h := fun j hj s => by
      rcases hE j hj with ⟨z, -⟩ | ⟨-, -, z, -⟩ | z
      · omega
      · exact z
      · omega
    by_cases ci : i = E.length
    · subst ci
      rw [gD_new] at si
      obtain ⟨-, -, -, -, -, z6, z7⟩ := h2 si
      rw [gD_app (by omega)] at sj
      rw [upf_s, upf_o (by omega), upf_s, upf_o (by omega), fTr_app (j := j) (by omega), fTr_new]
      have := old j (by omega) sj
      exact ⟨fun y => z7 j (by omega) sj y.symm, Or.inr (by omega)⟩
    · by_cases cj : j = E.length
      · subst cj
        rw [gD_new] at sj
        obtain ⟨-, -, -, -, -, z6, z7⟩ := h2 sj
        rw [gD_app (by omega)] at si
        rw [upf_s, upf_o (by omega), upf_s, upf_o (by omega), fTr_app (j := i) (by omega), fTr_new]
        have := old i (by omega) si
        exact ⟨z7 i (by omega) si, Or.inl (by omega)⟩
      · rw [gD_app (by omega)] at si sj
        rw [upf_o ci, upf_o cj, upf_o ci, upf_o cj, fTr_app (by omega), fTr_app (by omega)]
        exact q3 i j (by omega) (by omega) si sj ne
end GR
