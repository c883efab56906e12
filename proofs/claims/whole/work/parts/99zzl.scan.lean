/-! THE REFERENCE: scans over the words of a tree -/
section SC
variable {w : List (Nat × Nat × Nat)} {l r : Tr} {n : Nat}
/-- the forms of a tree -/
theorem Wf.br (h : Wf w (.branch n l r)) :
    (n % 64 = 9 ∧ kK w (n / 64) = 25 ∧ Wf w r ∧ bw r = n / 64 + 1 ∧ lev r = 0) ∨
    (n % 64 = 16 ∧ kK w (n / 64) = 31 ∧ Wf w r ∧ bw r = n / 64 + 1 ∧ lev r ≤ 3) ∨
    (n % 64 = 35 ∧ kK w (n / 64) = 36 ∧ Wf w r ∧ bw r = n / 64 + 1 ∧ kK w (ew r) = 37 ∧ lev r ≤ 6) ∨
    (n % 64 = 22 ∧ (kK w (n / 64) = 14 ∨ kK w (n / 64) = 15) ∧ kK w (n / 64 + 1) = 36 ∧ Wf w r ∧ bw r = n / 64 + 2 ∧ kK w (ew r) = 37 ∧ lev r ≤ 7 ∧ fo (kK w (n / 64) + 6 + 64 * (n / 64)) r) ∨
    ((n % 64 = 20 ∨ n % 64 = 21) ∧ Wf w l ∧ Wf w r ∧ kK w (ew l) = 35 ∧ bw r = ew l + 1 ∧ lev l ≤ 7 ∧ lev r ≤ 6) ∨
    (n % 64 = 19 ∧ Wf w l ∧ Wf w r ∧ kK w (n / 64) = 32 ∧ ew l = n / 64 ∧ bw r = n / 64 + 1 ∧ lev l ≤ 5 ∧ lev r = 8) ∨
    (n % 64 = 37 ∧ Wf w l ∧ Wf w r ∧ kK w (ew l) = 33 ∧ bw r = ew l + 1 ∧ lev l ≤ 6 ∧ lev r ≤ 6) ∨
    (bin (n % 64) = true ∧ Wf w l ∧ Wf w r ∧ kK w (n / 64) = opk (n % 64) ∧ ew l = n / 64 ∧ bw r = n / 64 + 1 ∧ lev l ≤ lL (n % 64) ∧ lev r ≤ lR (n % 64)) := by
  obtain ⟨h1, h2, h3, h4⟩ := h
  unfold wfn at h4
  by_cases c1 : n % 64 = 9
  · rw [if_pos c1] at h4
    exact Or.inl ⟨c1, h4.1, h2, h4.2.1, h4.2.2⟩
  rw [if_neg c1] at h4
  by_cases c2 : n % 64 = 16
  · rw [if_pos c2] at h4
    exact Or.inr (Or.inl ⟨c2, h4.1, h2, h4.2.1, h4.2.2⟩)
  rw [if_neg c2] at h4
  by_cases c3 : n % 64 = 35
  · rw [if_pos c3] at h4
    exact Or.inr (Or.inr (Or.inl ⟨c3, h4.1, h2, h4.2.1, h4.2.2.1, h4.2.2.2⟩))
  rw [if_neg c3] at h4
  by_cases c4 : n % 64 = 22
  · rw [if_pos c4] at h4
    exact Or.inr (Or.inr (Or.inr (Or.inl ⟨c4, h4.1, h4.2.1, h2, h4.2.2.1, h4.2.2.2.1, h4.2.2.2.2, h3 c4⟩)))
  rw [if_neg c4] at h4
  have hu : un (n % 64) = false := by
    unfold un
    rw [decide_eq_false c1, decide_eq_false c2, decide_eq_false c3, decide_eq_false c4]
    rfl
  have h1 := h1 hu
  by_cases c5 : n % 64 = 20 ∨ n % 64 = 21
  · rw [if_pos c5] at h4
    exact Or.inr (Or.inr (Or.inr (Or.inr (Or.inl ⟨c5, h1, h2, h4.1, h4.2.1, h4.2.2.1, h4.2.2.2⟩))))
  rw [if_neg c5] at h4
  by_cases c6 : n % 64 = 19
  · rw [if_pos c6] at h4
    exact Or.inr (Or.inr (Or.inr (Or.inr (Or.inr (Or.inl ⟨c6, h1, h2, h4.1, h4.2.1, h4.2.2.1, h4.2.2.2.1, h4.2.2.2.2⟩)))))
  rw [if_neg c6] at h4
  by_cases c7 : n % 64 = 37
  · rw [if_pos c7] at h4
    exact Or.inr (Or.inr (Or.inr (Or.inr (Or.inr (Or.inr (Or.inl ⟨c7, h1, h2, h4.1, h4.2.1, h4.2.2.1, h4.2.2.2⟩))))))
  rw [if_neg c7] at h4
  exact Or.inr (Or.inr (Or.inr (Or.inr (Or.inr (Or.inr (Or.inr ⟨h4.1, h1, h2, h4.2.1, h4.2.2.1, h4.2.2.2.1, h4.2.2.2.2.1, h4.2.2.2.2.2⟩))))))
/-- where it begins, where it ends -/
theorem bw_u (h : n % 64 = 9 ∨ n % 64 = 16 ∨ n % 64 = 35 ∨ n % 64 = 22) : bw (.branch n l r) = n / 64 := by
  show (if un (n % 64) then n / 64 else bw l) = _
  rw [if_pos]
  rcases h with z | z | z | z <;> rw [z] <;> rfl
theorem bw_n (h : ¬ (n % 64 = 9 ∨ n % 64 = 16 ∨ n % 64 = 35 ∨ n % 64 = 22)) : bw (.branch n l r) = bw l := by
  show (if un (n % 64) then n / 64 else bw l) = _
  rw [if_neg]
  simp only [un, Bool.or_eq_true, decide_eq_true_eq]
  omega
theorem ew_c (h : n % 64 = 35 ∨ n % 64 = 22) : ew (.branch n l r) = ew r + 1 := if_pos h
theorem ew_n (h : ¬ (n % 64 = 35 ∨ n % 64 = 22)) : ew (.branch n l r) = ew r := if_neg h
theorem bin_f {op : Nat} (h : bin op = true) : 4 ≤ op ∧ op ≤ 18 ∧ op ≠ 9 ∧ op ≠ 16 := by
  simp only [bin, Bool.and_eq_true, decide_eq_true_eq, bne_iff_ne, ne_eq] at h
  omega
theorem opk_b {op : Nat} (h : bin op = true) : 18 ≤ opk op ∧ opk op ≤ 30 := by
  have := bin_f h
  have : op = 4 ∨ op = 5 ∨ op = 6 ∨ op = 7 ∨ op = 8 ∨ op = 10 ∨ op = 11 ∨ op = 12 ∨ op = 13 ∨ op = 14 ∨ op = 15 ∨ op = 17 ∨ op = 18 := by omega
  rcases this with rfl | rfl | rfl | rfl | rfl | rfl | rfl | rfl | rfl | rfl | rfl | rfl | rfl <;> decide
/-- kinds of a rule's words -/
def rwk (k : Nat) : Bool := k = 1 || k = 2 || decide (12 ≤ k ∧ k ≤ 15) || decide (18 ≤ k ∧ k ≤ 33) || decide (35 ≤ k ∧ k ≤ 37)
theorem rwk_i {k : Nat} : rwk k = true ↔ (k = 1 ∨ k = 2 ∨ (12 ≤ k ∧ k ≤ 15) ∨ (18 ≤ k ∧ k ≤ 33) ∨ (35 ≤ k ∧ k ≤ 37)) := by
  simp only [rwk, Bool.or_eq_true, decide_eq_true_eq]
  omega
theorem Wf.wd : ∀ {T : Tr}, Wf w T → bw T < ew T ∧ ∀ j, bw T ≤ j → j < ew T → rwk (kK w j) = true := by
  intro T
  induction T with
  | leaf k =>
    intro h
    have h : opd (kK w k) = true := h
    refine ⟨Nat.lt_succ_self k, fun j h1 h2 => ?_⟩
    have h1 : k ≤ j := h1
    have h2 : j < k + 1 := h2
    have : j = k := by omega
    subst this
    rw [rwk_i]
    simp only [opd, Bool.or_eq_true, decide_eq_true_eq] at h
    omega
  | branch n l r il ir =>
    intro h
    -- one word, then another run of words
    have key : ∀ (a b : Nat), (a ≤ b) → (∀ j, b ≤ j → j < ew r → rwk (kK w j) = true) → (∀ j, a ≤ j → j < b → rwk (kK w j) = true) → ∀ j, a ≤ j → j < ew r → rwk (kK w j) = true := fun a b _ h1 h2 j h3 h4 => by
      by_cases c : j < b
      · exact h2 j h3 c
      · exact h1 j (by omega) h4
    have one : ∀ (a kk : Nat), kK w a = kk → rwk kk = true → ∀ j, a ≤ j → j < a + 1 → rwk (kK w j) = true := fun a kk h1 h2 j h3 h4 => by
      have : j = a := by omega
      rw [this, h1]; exact h2
    rcases h.br with ⟨c, h1, h2, h3, -⟩ | ⟨c, h1, h2, h3, -⟩ | ⟨c, h1, h2, h3, h4, -⟩ | ⟨c, h1, h2, h3, h4, h5, -⟩ | ⟨c, h1, h2, h3, h4, -⟩ | ⟨c, h1, h2, h3, h4, h5, -⟩ | ⟨c, h1, h2, h3, h4, -⟩ | ⟨c, h1, h2, h3, h4, h5, -⟩
    · obtain ⟨i1, i2⟩ := ir h2
      rw [bw_u (by omega), ew_n (by omega)]
      exact ⟨by omega, key _ (n / 64 + 1) (by omega) (by rw [← h3]; exact i2) (one _ _ h1 rfl)⟩
    · obtain ⟨i1, i2⟩ := ir h2
      rw [bw_u (by omega), ew_n (by omega)]
      exact ⟨by omega, key _ (n / 64 + 1) (by omega) (by rw [← h3]; exact i2) (one _ _ h1 rfl)⟩
    · obtain ⟨i1, i2⟩ := ir h2
      rw [bw_u (by omega), ew_c (by omega)]
      refine ⟨by omega, fun j j1 j2 => ?_⟩
      by_cases d : j = ew r
      · rw [d, h4]; rfl
      · exact key _ (n / 64 + 1) (by omega) (by rw [← h3]; exact i2) (one _ _ h1 rfl) j j1 (by omega)
    · obtain ⟨i1, i2⟩ := ir h3
      rw [bw_u (by omega), ew_c (by omega)]
      refine ⟨by omega, fun j j1 j2 => ?_⟩
      by_cases d : j = ew r
      · rw [d, h5]; rfl
      · refine key _ (n / 64 + 2) (by omega) (by rw [← h4]; exact i2) (fun j' z1 z2 => ?_) j j1 (by omega)
        by_cases e : j' = n / 64
        · rw [e]
          rcases h1 with z | z <;> rw [z] <;> rfl
        · have : j' = n / 64 + 1 := by omega
          rw [this, h2]; rfl
    · obtain ⟨i1, i2⟩ := ir h2
      obtain ⟨l1, l2⟩ := il h1
      rw [bw_n (by omega), ew_n (by omega)]
      refine ⟨by omega, key _ (ew l + 1) (by omega) (by rw [← h4]; exact i2) (fun j' z1 z2 => ?_)⟩
      by_cases e : j' = ew l
      · rw [e, h3]; rfl
      · exact l2 j' z1 (by omega)
    · obtain ⟨i1, i2⟩ := ir h2
      obtain ⟨l1, l2⟩ := il h1
      rw [bw_n (by omega), ew_n (by omega)]
      refine ⟨by omega, key _ (n / 64 + 1) (by omega) (by rw [← h5]; exact i2) (fun j' z1 z2 => ?_)⟩
      by_cases e : j' = n / 64
      · rw [e, h3]; rfl
      · exact l2 j' z1 (by omega)
    · obtain ⟨i1, i2⟩ := ir h2
      obtain ⟨l1, l2⟩ := il h1
      rw [bw_n (by omega), ew_n (by omega)]
      refine ⟨by omega, key _ (ew l + 1) (by omega) (by rw [← h4]; exact i2) (fun j' z1 z2 => ?_)⟩
      by_cases e : j' = ew l
      · rw [e, h3]; rfl
      · exact l2 j' z1 (by omega)
    · obtain ⟨i1, i2⟩ := ir h2
      obtain ⟨l1, l2⟩ := il h1
      have bf := bin_f c
      have ob := opk_b c
      rw [bw_n (by omega), ew_n (by omega)]
      refine ⟨by omega, key _ (n / 64 + 1) (by omega) (by rw [← h5]; exact i2) (fun j' z1 z2 => ?_)⟩
      by_cases e : j' = n / 64
      · rw [e, h3, rwk_i]; omega
      · exact l2 j' z1 (by omega)
/-- the last word of a rule -/
def opx (k : Nat) : Bool := k = 1 || k = 2 || k = 12 || k = 13 || k = 37
theorem Wf.last : ∀ {T : Tr}, Wf w T → opx (kK w (ew T - 1)) = true := by
  intro T
  induction T with
  | leaf k =>
    intro h
    have h : opd (kK w k) = true := h
    show opx (kK w k) = true
    simp only [opd, Bool.or_eq_true, decide_eq_true_eq] at h
    simp only [opx, Bool.or_eq_true, decide_eq_true_eq]
    omega
  | branch n l r il ir =>
    intro h
    rcases h.br with ⟨c, h1, h2, h3, -⟩ | ⟨c, h1, h2, h3, -⟩ | ⟨c, h1, h2, h3, h4, -⟩ | ⟨c, h1, h2, h3, h4, h5, -⟩ | ⟨c, h1, h2, h3, h4, -⟩ | ⟨c, h1, h2, h3, h4, h5, -⟩ | ⟨c, h1, h2, h3, h4, -⟩ | ⟨c, h1, h2, h3, h4, h5, -⟩
    · rw [ew_n (by omega)]; exact ir h2
    · rw [ew_n (by omega)]; exact ir h2
    · rw [ew_c (by omega), Nat.add_sub_cancel, h4]; rfl
    · rw [ew_c (by omega), Nat.add_sub_cancel, h5]; rfl
    · rw [ew_n (by omega)]; exact ir h2
    · rw [ew_n (by omega)]; exact ir h2
    · rw [ew_n (by omega)]; exact ir h2
    · have bf := bin_f c
      rw [ew_n (by omega)]; exact ir h2
/-- a word is one of the text's -/
theorem kK_lt {k : Nat} (h : kK w k ≠ 0) : k < w.length := by
  rcases Nat.lt_or_ge k w.length with z | z
  · exact z
  · exact absurd (by unfold kK; rw [List.getD_eq_getElem?_getD, List.getElem?_eq_none z]; rfl) h
/-- a step of a scan: place, brackets open, questions open -/
def ust (w : List (Nat × Nat × Nat)) (s : Nat × Nat × Int) : Nat × Nat × Int :=
  (s.1 + 1, (if kK w s.1 = 36 then s.2.1 + 1 else if kK w s.1 = 37 then s.2.1 - 1 else s.2.1),
    (if (if kK w s.1 = 36 then s.2.1 + 1 else if kK w s.1 = 37 then s.2.1 - 1 else s.2.1) = 0 then (if kK w s.1 = 32 then s.2.2 + 1 else if kK w s.1 = 33 then s.2.2 - 1 else s.2.2) else s.2.2))
def grd (w : List (Nat × Nat × Nat)) (so : Nat) (s : Nat × Nat × Int) : Prop := s.1 < w.length ∧ (kK w s.1 ≠ so ∨ 0 < s.2.1 ∨ 0 < s.2.2) ∧ (kK w s.1 = 37 → 0 < s.2.1)
/-- a scan goes on for m words -/
def Pt (w : List (Nat × Nat × Nat)) (so fl : Nat) : Nat → Nat × Nat × Int → Nat × Nat × Int → Prop
  | 0, s, s' => s = s' ∧ fl ≤ s.2.1
  | m + 1, s, s' => (grd w so s ∧ fl ≤ s.2.1) ∧ Pt w so fl m (ust w s) s'
variable {so fl : Nat}
theorem Pt.tr : ∀ {m1 m2 : Nat} {s s1 s2 : Nat × Nat × Int}, Pt w so fl m1 s s1 → Pt w so fl m2 s1 s2 → Pt w so fl (m1 + m2) s s2 := by
  intro m1
  induction m1 with
  | zero =>
    intro m2 s s1 s2 h h2
    obtain ⟨rfl, -⟩ : s = s1 ∧ _ := h
    rw [Nat.zero_add]
    exact h2
  | succ m1 ih =>
    intro m2 s s1 s2 h h2
    rw [show m1 + 1 + m2 = m1 + m2 + 1 by omega]
    exact ⟨h.1, ih h.2 h2⟩
theorem pt_o {k d : Nat} {a : Int} (hf : fl ≤ d) (h0 : kK w k ≠ 0) (h : kK w k ≠ so) (h2 : kK w k ≠ 32 ∧ kK w k ≠ 33 ∧ kK w k ≠ 36 ∧ kK w k ≠ 37) : Pt w so fl 1 (k, d, a) (k + 1, d, a) := by
  refine ⟨⟨⟨kK_lt h0, Or.inl h, fun z => absurd z h2.2.2.2⟩, hf⟩, ?_⟩
  show ust w (k, d, a) = (k + 1, d, a) ∧ fl ≤ (ust w (k, d, a)).2.1
  have e : ust w (k, d, a) = (k + 1, d, a) := by
    unfold ust
    dsimp only
    rw [if_neg h2.2.2.1, if_neg h2.2.2.2, if_neg h2.1, if_neg h2.2.1, ite_self]
  rw [e]
  exact ⟨rfl, hf⟩
theorem pt_36 {k d : Nat} {a : Int} (hf : fl ≤ d) (hs : so ≠ 36) (h : kK w k = 36) : Pt w so fl 1 (k, d, a) (k + 1, d + 1, a) := by
  refine ⟨⟨⟨kK_lt (k := k) (by omega), Or.inl (by show kK w k ≠ so; omega), fun z => by have z : kK w k = 37 := z; omega⟩, hf⟩, ?_⟩
  show ust w (k, d, a) = (k + 1, d + 1, a) ∧ fl ≤ (ust w (k, d, a)).2.1
  have e : ust w (k, d, a) = (k + 1, d + 1, a) := by
    unfold ust
    dsimp only
    rw [if_pos h, if_neg (by omega)]
  rw [e]
  exact ⟨rfl, Nat.le_succ_of_le hf⟩
theorem pt_37 {k d : Nat} {a : Int} (hf : fl ≤ d) (hs : so ≠ 37) (h : kK w k = 37) : Pt w so fl 1 (k, d + 1, a) (k + 1, d, a) := by
  refine ⟨⟨⟨kK_lt (k := k) (by omega), Or.inl (by show kK w k ≠ so; omega), fun _ => Nat.succ_pos d⟩, Nat.le_succ_of_le hf⟩, ?_⟩
  show ust w (k, d + 1, a) = (k + 1, d, a) ∧ fl ≤ (ust w (k, d + 1, a)).2.1
  have e : ust w (k, d + 1, a) = (k + 1, d, a) := by
    unfold ust
    dsimp only
    rw [if_neg (show ¬ kK w k = 36 by omega), if_pos h, Nat.add_sub_cancel, if_neg (show ¬ kK w k = 32 by omega), if_neg (show ¬ kK w k = 33 by omega), ite_self]
  rw [e]
  exact ⟨rfl, hf⟩
theorem pt_32 {k d : Nat} {a : Int} (hf : fl ≤ d) (hs : so ≠ 32) (h : kK w k = 32) : Pt w so fl 1 (k, d, a) (k + 1, d, if d = 0 then a + 1 else a) := by
  refine ⟨⟨⟨kK_lt (k := k) (by omega), Or.inl (by show kK w k ≠ so; omega), fun z => by have z : kK w k = 37 := z; omega⟩, hf⟩, ?_⟩
  show ust w (k, d, a) = (k + 1, d, if d = 0 then a + 1 else a) ∧ fl ≤ (ust w (k, d, a)).2.1
  have e : ust w (k, d, a) = (k + 1, d, if d = 0 then a + 1 else a) := by
    unfold ust
    dsimp only
    rw [if_neg (show ¬ kK w k = 36 by omega), if_neg (show ¬ kK w k = 37 by omega), if_pos h]
  rw [e]
  exact ⟨rfl, hf⟩
theorem pt_33 {k d : Nat} {a : Int} (hf : fl ≤ d) (hs : so = 33 → 0 < d ∨ 0 ≤ a) (h : kK w k = 33) : Pt w so fl 1 (k, d, if d = 0 then a + 1 else a) (k + 1, d, a) := by
  refine ⟨⟨⟨kK_lt (k := k) (by omega), ?_, fun z => by have z : kK w k = 37 := z; omega⟩, hf⟩, ?_⟩
  · show kK w k ≠ so ∨ 0 < d ∨ 0 < (if d = 0 then a + 1 else a)
    by_cases c : so = 33
    · rcases hs c with z | z
      · exact Or.inr (Or.inl z)
      · by_cases d0 : d = 0
        · rw [if_pos d0]; omega
        · omega
    · omega
  · show ust w (k, d, if d = 0 then a + 1 else a) = (k + 1, d, a) ∧ fl ≤ (ust w (k, d, if d = 0 then a + 1 else a)).2.1
    have e : ust w (k, d, if d = 0 then a + 1 else a) = (k + 1, d, a) := by
      unfold ust
      dsimp only
      rw [if_neg (show ¬ kK w k = 36 by omega), if_neg (show ¬ kK w k = 37 by omega), if_neg (show ¬ kK w k = 32 by omega), if_pos h]
      by_cases d0 : d = 0
      · rw [if_pos d0, if_pos d0, Int.add_sub_cancel]
      · rw [if_neg d0, if_neg d0]
    rw [e]
    exact ⟨rfl, hf⟩
/-- a scan passes a tree -/
theorem tr_pt (hs : so = 34 ∨ so = 16 ∨ so = 17 ∨ so = 33) : ∀ {T : Tr}, Wf w T → ∀ (d : Nat) (a : Int), fl ≤ d → (so = 33 → 0 < d ∨ 0 ≤ a) → Pt w so fl (ew T - bw T) (bw T, d, if lev T = 8 then (if d = 0 then a + 1 else a) else a) (ew T, d, a) := by
  intro T
  induction T with
  | leaf k =>
    intro h d a hf ha
    have h : opd (kK w k) = true := h
    simp only [opd, Bool.or_eq_true, decide_eq_true_eq] at h
    show Pt w so fl (k + 1 - k) (k, d, a) (k + 1, d, a)
    rw [Nat.add_sub_cancel_left]
    exact pt_o hf (by omega) (by omega) (by omega)
  | branch n l r il ir =>
    intro h d a hf ha
    have lv : lev (.branch n l r) = lvo (n % 64) := rfl
    rcases h.br with ⟨c, h1, h2, h3, h4⟩ | ⟨c, h1, h2, h3, h4⟩ | ⟨c, h1, h2, h3, h4, h5⟩ | ⟨c, h1, h2, h3, h4, h5, h6, -⟩ | ⟨c, h1, h2, h3, h4, h5, h6⟩ | ⟨c, h1, h2, h3, h4, h5, h6, h7⟩ | ⟨c, h1, h2, h3, h4, h5, h6⟩ | ⟨c, h1, h2, h3, h4, h5, h6, h7⟩
    · have i := ir h2 d a hf ha
      have e := h2.wd.1
      rw [if_neg (by omega), h3] at i
      rw [bw_u (by omega), ew_n (by omega), if_neg (by rw [lv, c]; decide), show ew r - n / 64 = 1 + (ew r - (n / 64 + 1)) by omega]
      exact (pt_o hf (by omega) (by omega) (by omega)).tr i
    · have i := ir h2 d a hf ha
      have e := h2.wd.1
      rw [if_neg (by omega), h3] at i
      rw [bw_u (by omega), ew_n (by omega), if_neg (by rw [lv, c]; decide), show ew r - n / 64 = 1 + (ew r - (n / 64 + 1)) by omega]
      exact (pt_o hf (by omega) (by omega) (by omega)).tr i
    · have i := ir h2 (d + 1) a (Nat.le_succ_of_le hf) (fun _ => Or.inl (Nat.succ_pos d))
      have e := h2.wd.1
      rw [if_neg (by omega), h3] at i
      rw [bw_u (by omega), ew_c (by omega), if_neg (by rw [lv, c]; decide), show ew r + 1 - n / 64 = 1 + (ew r - (n / 64 + 1)) + 1 by omega]
      exact ((pt_36 hf (by omega) h1).tr i).tr (pt_37 hf (by omega) h4)
    · have i := ir h3 (d + 1) a (Nat.le_succ_of_le hf) (fun _ => Or.inl (Nat.succ_pos d))
      have e := h3.wd.1
      rw [if_neg (by omega), h4] at i
      rw [bw_u (by omega), ew_c (by omega), if_neg (by rw [lv, c]; decide), show ew r + 1 - n / 64 = 1 + 1 + (ew r - (n / 64 + 2)) + 1 by omega]
      exact (((pt_o hf (by omega) (by omega) (by omega)).tr (pt_36 (k := n / 64 + 1) hf (by omega) h2)).tr i).tr (pt_37 hf (by omega) h5)
    · have i := ir h2 d a hf ha
      have j := il h1 d a hf ha
      have e := h2.wd.1
      have e' := h1.wd.1
      rw [if_neg (by omega), h4] at i
      rw [if_neg (by omega)] at j
      rw [bw_n (by omega), ew_n (by omega), if_neg (by rw [lv]; rcases c with z | z <;> rw [z] <;> decide), show ew r - bw l = ew l - bw l + 1 + (ew r - (ew l + 1)) by omega]
      exact (j.tr (pt_o hf (by omega) (by omega) (by omega))).tr i
    · have i := ir h2 d a hf ha
      have j := il h1 d a hf ha
      have e := h2.wd.1
      have e' := h1.wd.1
      rw [if_pos h7, h5] at i
      rw [if_neg (by omega), h4] at j
      rw [bw_n (by omega), ew_n (by omega), if_neg (by rw [lv, c]; decide), show ew r - bw l = n / 64 - bw l + 1 + (ew r - (n / 64 + 1)) by omega]
      exact (j.tr (pt_32 hf (by omega) h3)).tr i
    · have i := ir h2 d a hf ha
      have j := il h1 d (if d = 0 then a + 1 else a) hf (fun z => by
        rcases ha z with y | y
        · exact Or.inl y
        · refine Or.inr ?_
          split <;> omega)
      have e := h2.wd.1
      have e' := h1.wd.1
      rw [if_neg (by omega), h4] at i
      rw [if_neg (by omega)] at j
      rw [bw_n (by omega), ew_n (by omega), if_pos (by rw [lv, c]; rfl), show ew r - bw l = ew l - bw l + 1 + (ew r - (ew l + 1)) by omega]
      exact (j.tr (pt_33 hf ha h3)).tr i
    · have i := ir h2 d a hf ha
      have j := il h1 d a hf ha
      have e := h2.wd.1
      have e' := h1.wd.1
      have bf := bin_f c
      have ob := opk_b c
      have lL5 : lL (n % 64) ≤ 5 := by unfold lL; repeat' split
                                       all_goals omega
      have lR5 : lR (n % 64) ≤ 5 := by unfold lR; repeat' split
                                       all_goals omega
      rw [if_neg (by omega), h5] at i
      rw [if_neg (by omega), h4] at j
      have l8 : ¬ lev (.branch n l r) = 8 := by
        rw [lv]
        unfold lvo
        repeat' split
        all_goals omega
      rw [bw_n (by omega), ew_n (by omega), if_neg l8, show ew r - bw l = n / 64 - bw l + 1 + (ew r - (n / 64 + 1)) by omega]
      exact (j.tr (pt_o hf (by omega) (by omega) (by omega))).tr i
theorem tr_p (hs : so = 34 ∨ so = 16 ∨ so = 17 ∨ so = 33) {T : Tr} (h : Wf w T) (hl : lev T ≤ 7) (d : Nat) (a : Int) (hf : fl ≤ d) (ha : so = 33 → 0 < d ∨ 0 ≤ a) : Pt w so fl (ew T - bw T) (bw T, d, a) (ew T, d, a) := by
  have := tr_pt hs h d a hf ha
  rw [if_neg (by omega)] at this
  exact this
end SC
