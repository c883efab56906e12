/-! the class's step is the reference's -/
section TO
variable {b : List Nat} {ch : Bool} {k : Nat}
theorem rst_72 (h : ¬ (k = 26 ∨ k = 27 ∨ k = 28)) (s : List Nat) (v : Nat) : rst k 72 s v = some (s, v, false) := if_neg h
theorem rst_70 (h : ¬ (k = 24 ∨ k = 25)) (s : List Nat) (v : Nat) : rst k 70 s v = some (s, v, false) := if_neg h
theorem rst_68 (h : ¬ cmpk k = true) (s : List Nat) (v : Nat) : rst k 68 s v = some (s, v, false) := if_neg h
theorem rst_66 (h : ¬ k = 29) (s : List Nat) (v : Nat) : rst k 66 s v = some (s, v, false) := if_neg h
theorem rst_64 (h : ¬ k = 30) (s : List Nat) (v : Nat) : rst k 64 s v = some (s, v, false) := if_neg h
theorem rst_62 (h : ¬ k = 32) (s : List Nat) (v : Nat) : rst k 62 s v = some (s, v, false) := if_neg h
theorem to_72 {s : List Nat} {v : Nat} (h : okS s 0 = true) : Go k s.length (cc b ch s 0, v) (72 :: cc b ch (bl 7 v s).2 1, (bl 7 v s).1) ∧ okS (bl 7 v s).2 1 = true := by
  obtain ⟨g1, g2⟩ := ps_8 (b := b) (ch := ch) (k := k) s v h
  have ht := bl_tp (h := 8) (by decide) s v
  obtain ⟨a1, a2, a3⟩ := ps_7 (b := b) (ch := ch) (v := (bl 8 v s).1) g2 ht
  have e := bl_bl (h := 8) (h' := 7) (by decide) s v
  rw [cc_0 ht, a1] at g1
  rw [e, a2]
  exact ⟨g1, a3⟩
theorem to_70 (c1 : ¬ (k = 26 ∨ k = 27 ∨ k = 28)) {s : List Nat} {v : Nat} (h : okS s 0 = true) : Go k (s.length + 1) (cc b ch s 0, v) (70 :: cc b ch (bl 6 v s).2 2, (bl 6 v s).1) ∧ okS (bl 6 v s).2 2 = true := by
  obtain ⟨g1, g2⟩ := to_72 (b := b) (ch := ch) (k := k) (v := v) h
  have ht := bl_tp (h := 7) (by decide) s v
  obtain ⟨a1, a2, a3⟩ := ps_6 (b := b) (ch := ch) (v := (bl 7 v s).1) g2
  have e := bl_bl (h := 7) (h' := 6) (by decide) s v
  have g3 := g1.t (Go.st (rst_72 c1 _ _))
  rw [cc_1 ht, a1] at g3
  rw [e, a2]
  exact ⟨g3, a3⟩
theorem to_c2 (c1 : ¬ (k = 26 ∨ k = 27 ∨ k = 28)) (c2 : ¬ (k = 24 ∨ k = 25)) {s : List Nat} {v : Nat} (h : okS s 0 = true) : Go k (s.length + 1 + 1) (cc b ch s 0, v) (cc b ch (bl 6 v s).2 2, (bl 6 v s).1) ∧ okS (bl 6 v s).2 2 = true := by
  obtain ⟨g1, g2⟩ := to_70 (b := b) (ch := ch) c1 (v := v) h
  exact ⟨g1.tr (Go.st (rst_70 c2 _ _)), g2⟩
/-- from the comparison's place on -/
theorem to_66 {s : List Nat} {v : Nat} (h : okS s 3 = true) : Go k s.length (cc b ch s 3, v) (66 :: cc b ch (bl 3 v s).2 4, (bl 3 v s).1) ∧ okS (bl 3 v s).2 4 = true := by
  obtain ⟨g1, g2, ht⟩ := ps_4 (b := b) (ch := ch) (k := k) s v h
  obtain ⟨a1, a2, a3⟩ := ps_3 (b := b) (ch := ch) (v := (bl 4 v s).1) g2 ht
  have e := bl_bl (h := 4) (h' := 3) (by decide) s v
  rw [cc_3 ht, a1] at g1
  rw [e, a2]
  exact ⟨g1, a3⟩
theorem to_64 (c : ¬ k = 29) {s : List Nat} {v : Nat} (h : okS s 3 = true) : Go k (s.length + 1) (cc b ch s 3, v) (64 :: cc b ch (bl 2 v s).2 5, (bl 2 v s).1) ∧ okS (bl 2 v s).2 5 = true := by
  obtain ⟨g1, g2⟩ := to_66 (b := b) (ch := ch) (k := k) (v := v) h
  have ht := bl_tp (h := 3) (by decide) s v
  obtain ⟨a1, a2, a3⟩ := ps_2 (b := b) (ch := ch) (v := (bl 3 v s).1) g2
  have e := bl_bl (h := 3) (h' := 2) (by decide) s v
  have g3 := g1.t (Go.st (rst_66 c _ _))
  rw [cc_4 ht, a1] at g3
  rw [e, a2]
  exact ⟨g3, a3⟩
theorem to_c5 (c : ¬ k = 29) (c' : ¬ k = 30) {s : List Nat} {v : Nat} (h : okS s 3 = true) : Go k (s.length + 1 + 1) (cc b ch s 3, v) (cc b ch (bl 2 v s).2 5, (bl 2 v s).1) ∧ okS (bl 2 v s).2 5 = true := by
  obtain ⟨g1, g2⟩ := to_64 (b := b) (ch := ch) c (v := v) h
  exact ⟨g1.tr (Go.st (rst_64 c' _ _)), g2⟩
theorem to_c6 (c : ¬ k = 29) (c' : ¬ k = 30) (c'' : ¬ k = 32) {s : List Nat} {v : Nat} (h : okS s 3 = true) : Go k (2 * s.length + 3) (cc b ch s 3, v) (cc b ch (bl 1 v s).2 6, (bl 1 v s).1) ∧ okS (bl 1 v s).2 5 = true ∧ tpo (bl 1 v s).2 = 0 := by
  obtain ⟨g1, g2⟩ := to_c5 (b := b) (ch := ch) c c' (v := v) h
  have ht := bl_tp (h := 2) (by decide) s v
  have e := bl_bl (h := 2) (h' := 1) (by decide) s v
  have g3 : Go k (s.length + 3) (cc b ch s 3, v) (cc b ch (bl 2 v s).2 6, (bl 2 v s).1) := by
    by_cases q : ch = false ∨ (bl 2 v s).2 ≠ []
    · rw [cc_5 ht q] at g1
      exact g1.tr (Go.st (rst_62 c'' _ _))
    · have q1 : ch = true := by
        cases ch with
        | true => rfl
        | false => exact absurd (Or.inl rfl) q
      have q2 : (bl 2 v s).2 = [] := Classical.byContradiction fun z => q (Or.inr z)
      rw [q2] at g1 ⊢
      subst q1
      exact g1.mo (by omega)
  obtain ⟨a1, a2, a3⟩ := ps_1 (b := b) (ch := ch) (k := k) (bl 2 v s).2 (bl 2 v s).1 g2
  rw [e]
  exact ⟨g3.tr a1 (by have := bl_len (h := 2) s v; omega), a2, a3⟩
end TO
/-- levels and what bears them -/
theorem bl_lb {h : Nat} (h1 : 1 ≤ h) {c : Nat} : ∀ (s : List Nat) (v : Nat), v = lb s + c → (bl h v s).1 = lb (bl h v s).2 + c := by
  intro s
  induction s with
  | nil => intro v e; exact e
  | cons a s ih =>
    intro v e
    have e : v = (if a = 9 ∨ a = 16 ∨ a = 19 ∨ a = 36 ∨ a = 35 ∨ a = 20 ∨ a = 21 then 1 else 0) + lb s + c := e
    by_cases q : h ≤ hol a
    · have e1 : bl h v (a :: s) = bl h (if a = 9 ∨ a = 16 ∨ a = 19 then v - 1 else v) s := if_pos q
      rw [e1]
      apply ih
      by_cases z : a = 9 ∨ a = 16 ∨ a = 19
      · rw [if_pos z]
        rw [if_pos (by omega)] at e
        omega
      · rw [if_neg z]
        have n : ¬ (a = 9 ∨ a = 16 ∨ a = 19 ∨ a = 36 ∨ a = 35 ∨ a = 20 ∨ a = 21) := by
          rintro (w | w | w | w | w | w | w)
          · exact z (Or.inl w)
          · exact z (Or.inr (Or.inl w))
          · exact z (Or.inr (Or.inr w))
          all_goals (subst w; exact absurd q (by show ¬ h ≤ 0; omega))
        rw [if_neg n] at e
        omega
    · have e1 : bl h v (a :: s) = (v, a :: s) := if_neg q
      rw [e1]
      exact e
theorem bl_le {h : Nat} : ∀ (s : List Nat) (v : Nat), (bl h v s).1 ≤ v := by
  intro s
  induction s with
  | nil => intro v; exact Nat.le_refl _
  | cons a s ih =>
    intro v
    by_cases q : h ≤ hol a
    · have e1 : bl h v (a :: s) = bl h (if a = 9 ∨ a = 16 ∨ a = 19 then v - 1 else v) s := if_pos q
      rw [e1]
      have h1 := ih (if a = 9 ∨ a = 16 ∨ a = 19 then v - 1 else v)
      have h2 : (if a = 9 ∨ a = 16 ∨ a = 19 then v - 1 else v) ≤ v := by split <;> omega
      exact Nat.le_trans h1 h2
    · have e1 : bl h v (a :: s) = (v, a :: s) := if_neg q
      rw [e1]
      exact Nat.le_refl _
/-- how many may wait -/
theorem ok_len : ∀ (s : List Nat) (i : Nat), okS s i = true → s.length + i ≤ 6 * lb s + 5 ∨ (5 < i ∧ s.length ≤ 6 * lb s) := by
  intro s
  induction s with
  | nil => intro i _; show 0 + i ≤ 6 * 0 + 5 ∨ (5 < i ∧ 0 ≤ 6 * 0); omega
  | cons a s ih =>
    intro i h
    obtain ⟨h1, h2, h3⟩ := okS_c h
    have := ih _ h3
    have e : lb (a :: s) = (if a = 9 ∨ a = 16 ∨ a = 19 ∨ a = 36 ∨ a = 35 ∨ a = 20 ∨ a = 21 then 1 else 0) + lb s := rfl
    have el : (a :: s).length = s.length + 1 := rfl
    rw [e, el]
    have hq := hol_le a
    have c : hol a = 8 ∨ hol a = 7 ∨ hol a = 6 ∨ hol a = 5 ∨ hol a = 4 ∨ hol a = 3 ∨ hol a = 2 ∨ hol a = 1 ∨ hol a = 0 := by omega
    rcases c with c | c | c | c | c | c | c | c | c
    · have e9 := hol_8 (by omega : 8 ≤ hol a); subst e9
      rw [if_pos (by omega)]
      have n : nxt 9 = 0 := rfl
      have l : lmt (hol 9) = 0 := rfl
      rw [n] at this; rw [l] at h2; omega
    · have n : nxt a = 1 := by rcases hol_7 c with q | q | q <;> subst q <;> rfl
      have l : lmt (hol a) = 0 := by rw [c]; rfl
      rw [n] at this; rw [l] at h2
      have q := hol_7 c
      rw [if_neg (by omega)]; omega
    · have n : nxt a = 2 := by rcases hol_6 c with q | q <;> subst q <;> rfl
      have l : lmt (hol a) = 1 := by rw [c]; rfl
      rw [n] at this; rw [l] at h2
      have q := hol_6 c
      rw [if_neg (by omega)]; omega
    · have q := hol_5 c
      have n : nxt a = 3 := by unfold nxt; rw [if_neg (by omega), if_neg (by omega), if_neg (by omega), if_pos (by omega)]
      have l : lmt (hol a) = 2 := by rw [c]; rfl
      rw [n] at this; rw [l] at h2
      rw [if_neg (by omega)]; omega
    · have q := hol_4 c; subst q
      have n : nxt 16 = 3 := rfl
      have l : lmt (hol 16) = 3 := rfl
      rw [n] at this; rw [l] at h2
      rw [if_pos (by omega)]; omega
    · have q := hol_3 c; subst q
      have n : nxt 17 = 4 := rfl
      have l : lmt (hol 17) = 3 := rfl
      rw [n] at this; rw [l] at h2
      rw [if_neg (by omega)]; omega
    · have q := hol_2 c; subst q
      have n : nxt 18 = 5 := rfl
      have l : lmt (hol 18) = 4 := rfl
      rw [n] at this; rw [l] at h2
      rw [if_neg (by omega)]; omega
    · have q := hol_1 c; subst q
      have n : nxt 19 = 5 := rfl
      rw [n] at this
      rw [if_pos (by omega)]; omega
    · have q : a = 36 ∨ a = 35 ∨ a = 20 ∨ a = 21 := by
        unfold val at h1
        rw [c] at h1
        simp at h1
        omega
      rw [if_pos (by omega)]
      have n : nxt a = 5 ∨ nxt a = 0 := by rcases q with q | q | q | q <;> subst q <;> decide
      rcases n with n | n <;> rw [n] at this <;> omega
theorem rel_i {c : Cs} {p : List Nat × Nat} (h : okC c = true) (e : p = (phi c, lam c)) : rel (some c) (some p) = true := by
  show (okC c && (decide (p = (phi c, lam c)) || decide (p = (75 :: phi c, lam c + 1)))) = true
  rw [h, decide_eq_true e]
  rfl
theorem rel_j {c : Cs} {p : List Nat × Nat} (h : okC c = true) (e : p = (75 :: phi c, lam c + 1)) : rel (some c) (some p) = true := by
  show (okC c && (decide (p = (phi c, lam c)) || decide (p = (75 :: phi c, lam c + 1)))) = true
  rw [h, decide_eq_true e, Bool.or_true]
  rfl
theorem okC_i {w r v : Nat} {s : List Nat} {b : Bool} (hw : w = 15 ∨ w = 14) (hs : okS s 0 = true) (hv : v = lb s + (if r = 7 then 1 else 0)) (h40 : v ≤ 40) (hr : r < 8) : okC (w, r, v, s, b) = true := by
  show (if w = 15 ∨ w = 14 then okS s 0 && decide (v = lb s + (if r = 7 then 1 else 0)) && decide (v ≤ 40) && decide (r < 8) else _) = true
  rw [if_pos hw, hs, decide_eq_true hv, decide_eq_true h40, decide_eq_true hr]
  rfl
theorem sim_fin : ∀ w, w < 13 → ∀ b : Bool, ∀ k, k < 40 → k ≠ 0 → (match rx k 9 (phi (w, 0, 0, [], b)) (lam (w, 0, 0, [], b)) with
    | some o => rel (cst k (w, 0, 0, [], b)) o
    | none => false) = true := by decide +kernel
theorem sim_clo : ∀ r, r < 8 → ∀ b : Bool, ∀ k, k < 40 → (match rx k 9 (bas r) (if r = 7 then 1 else 0) with
    | some o => rel (cClo k r b) o
    | none => false) = true := by decide +kernel
theorem rs_36 {X : List Nat} {v : Nat} : rst 36 73 X v = if v + 1 ≤ 40 then some (61 :: 37 :: 75 :: X, v + 1, true) else none := rfl
theorem rs_25 {X : List Nat} {v : Nat} : rst 25 73 X v = if v + 1 ≤ 40 then some (73 :: 75 :: X, v + 1, true) else none := rfl
theorem rs_31 {X : List Nat} {v : Nat} : rst 31 67 X v = if v + 1 ≤ 40 then some (67 :: 75 :: X, v + 1, true) else none := rfl
theorem rs_t33 {k v : Nat} {X : List Nat} : rst k 33 X v = if 33 = k then some (X, v, true) else none := rfl
theorem rs_t37 {k v : Nat} {X : List Nat} : rst k 37 X v = if 37 = k then some (X, v, true) else none := rfl
theorem rs_76 {k v : Nat} {X : List Nat} : rst k 76 X v = if k = 36 ∧ v + 1 ≤ 40 then some (X, v + 1, true) else none := rfl
theorem wnt_c (r a : Nat) (t : List Nat) : wnt r (a :: t) = if hol a = 7 ∨ hol a = 8 then 73 :: cc (bas r) (decide (r = 6)) (a :: t) 0
    else if hol a = 6 then 71 :: cc (bas r) (decide (r = 6)) (a :: t) 1
    else if hol a = 5 then 69 :: cc (bas r) (decide (r = 6)) (a :: t) 2
    else if hol a = 4 ∨ hol a = 3 then 67 :: cc (bas r) (decide (r = 6)) (a :: t) 3
    else if hol a = 2 then 65 :: cc (bas r) (decide (r = 6)) (a :: t) 4
    else 61 :: cc (bas r) (decide (r = 6)) (a :: t) 6 := rfl
section SIM
variable {r v k : Nat} {s : List Nat} {b : Bool}
theorem wnt_67 (h : tpo s ≤ 4) : Go k 3 (wnt r s, v) (67 :: cc (bas r) (decide (r = 6)) s 3, v) := by
  cases s with
  | nil =>
    by_cases c : r = 6
    · subst c
      exact (Go.st rfl).tr ((Go.st rfl).t (Go.st rfl))
    · have e : wnt r [] = 61 :: bas r := if_neg c
      have e2 : cc (bas r) (decide (r = 6)) [] 3 = 66 :: 64 :: 62 :: bas r := by rw [decide_eq_false c]; rfl
      rw [e, e2]
      exact (Go.st rfl).tr ((Go.st rfl).t (Go.st rfl))
  | cons a t =>
    have h : hol a ≤ 4 := h
    rw [wnt_c, if_neg (by omega), if_neg (by omega), if_neg (by omega)]
    by_cases c : hol a = 4 ∨ hol a = 3
    · rw [if_pos c]
      exact Go.rf _
    · rw [if_neg c]
      have h3 : tpo (a :: t) ≤ 3 := by show hol a ≤ 3; omega
      by_cases c2 : hol a = 2
      · rw [if_pos c2, cc_3 h3]
        exact (Go.st rfl).mo (by omega)
      · rw [if_neg c2, cc_3 h3, cc_4 (by show hol a ≤ 2; omega), cc_5 (by show hol a ≤ 1; omega) (Or.inr (List.cons_ne_nil _ _))]
        exact (Go.st rfl).tr ((Go.st rfl).t (Go.st rfl))
theorem wnt_73 (h : ¬ k = 31 ∨ 5 ≤ tpo s) : Go k 6 (wnt r s, v) (73 :: cc (bas r) (decide (r = 6)) s 0, v) := by
  by_cases c : tpo s ≤ 4
  · have hk : ¬ k = 31 := by
      rcases h with h | h
      · exact h
      · omega
    have e : rst k 67 (cc (bas r) (decide (r = 6)) s 3) v = some (69 :: 68 :: cc (bas r) (decide (r = 6)) s 3, v, false) := if_neg hk
    rw [cc_0 (by omega), cc_1 (by omega), cc_2 c]
    exact (wnt_67 c).tr ((Go.st e).t ((Go.st rfl).t (Go.st rfl)))
  · cases s with
    | nil => exact absurd (Nat.zero_le _) c
    | cons a t =>
      have c : ¬ hol a ≤ 4 := c
      have h8 := hol_le a
      rw [wnt_c]
      by_cases c7 : hol a = 7 ∨ hol a = 8
      · rw [if_pos c7]
        exact Go.rf _
      · rw [if_neg c7]
        by_cases c6 : hol a = 6
        · rw [if_pos c6, cc_0 (by show hol a ≤ 7; omega)]
          exact (Go.st rfl).mo (by omega)
        · rw [if_neg c6, if_pos (by omega), cc_0 (by show hol a ≤ 7; omega), cc_1 (by show hol a ≤ 6; omega)]
          exact (Go.st rfl).tr (Go.st rfl)
theorem sim_opd (hs : okS s 0 = true) (hv : v = lb s + (if r = 7 then 1 else 0)) (h40 : v ≤ 40) (hr : r < 8) : ∃ o, Ends k 10 (wnt r s, v) o ∧ rel (cOpd k r v s b) o = true := by
  have go := wnt_73 (r := r) (v := v) (k := k) (s := s)
  generalize hX : cc (bas r) (decide (r = 6)) s 0 = X at go
  unfold cOpd
  by_cases c1 : k = 1 ∨ k = 2 ∨ k = 12 ∨ k = 13
  · rw [if_pos c1]
    have e : rst k 73 X v = some (X, v, true) := by rcases c1 with c | c | c | c <;> subst c <;> rfl
    exact ⟨_, (Ends.tk e).go (go (Or.inl (by omega))), rel_i (okC_i (Or.inl rfl) hs hv h40 hr) (by rw [← hX]; rfl)⟩
  rw [if_neg c1]
  by_cases c2 : k = 36
  · subst c2
    rw [if_pos rfl]
    by_cases q : v < 40
    · rw [if_pos q]
      have e : rst 36 73 X v = some (61 :: 37 :: 75 :: X, v + 1, true) := by rw [rs_36, if_pos (by omega)]
      refine ⟨_, (Ends.tk e).go (go (Or.inl (by decide))), rel_i (okC_i (Or.inr rfl) (okS_i rfl (Nat.zero_le _) hs) ?_ (by omega) hr) (by rw [← hX]; rfl)⟩
      show v + 1 = 1 + lb s + _
      omega
    · rw [if_neg q]
      have e : rst 36 73 X v = none := by rw [rs_36, if_neg (by omega)]
      exact ⟨_, (Ends.no e).go (go (Or.inl (by decide))), rfl⟩
  rw [if_neg c2]
  by_cases c3 : k = 25
  · subst c3
    rw [if_pos rfl]
    by_cases q : v < 40
    · rw [if_pos q]
      have e : rst 25 73 X v = some (73 :: 75 :: X, v + 1, true) := by rw [rs_25, if_pos (by omega)]
      refine ⟨_, (Ends.tk e).go (go (Or.inl (by decide))), rel_i (okC_i (Or.inr rfl) (okS_i rfl (Nat.zero_le _) hs) ?_ (by omega) hr) (by rw [← hX]; rfl)⟩
      show v + 1 = 1 + lb s + _
      omega
    · rw [if_neg q]
      have e : rst 25 73 X v = none := by rw [rs_25, if_neg (by omega)]
      exact ⟨_, (Ends.no e).go (go (Or.inl (by decide))), rfl⟩
  rw [if_neg c3]
  by_cases c4 : k = 31
  · subst c4
    rw [if_pos rfl]
    by_cases t4 : tpo s ≤ 4
    · have go2 := wnt_67 (r := r) (v := v) (k := 31) t4
      by_cases q : v < 40
      · rw [if_pos ⟨t4, q⟩]
        have e : rst 31 67 (cc (bas r) (decide (r = 6)) s 3) v = some (67 :: 75 :: cc (bas r) (decide (r = 6)) s 3, v + 1, true) := by rw [rs_31, if_pos (by omega)]
        refine ⟨_, (Ends.tk e).go go2, rel_i (okC_i (Or.inr rfl) (okS_i rfl (Nat.zero_le _) (okS_up hs (Or.inr (lmt_4 t4)))) ?_ (by omega) hr) rfl⟩
        show v + 1 = 1 + lb s + _
        omega
      · rw [if_neg (fun z => q z.2)]
        have e : rst 31 67 (cc (bas r) (decide (r = 6)) s 3) v = none := by rw [rs_31, if_neg (by omega)]
        exact ⟨_, (Ends.no e).go go2, rfl⟩
    · rw [if_neg (fun z => t4 z.1)]
      exact ⟨_, (Ends.no rfl).go (go (Or.inr (by omega))), rfl⟩
  rw [if_neg c4]
  by_cases c5 : k = 14
  · subst c5
    rw [if_pos rfl]
    refine ⟨_, (Ends.tk (s' := 76 :: 61 :: 74 :: 37 :: 75 :: X) (v' := v) rfl).go (go (Or.inl (by decide))), rel_i ?_ (by rw [← hX]; rfl)⟩
    show (okS (20 :: s) 0 && decide (v + 1 = lb (20 :: s) + (if r = 7 then 1 else 0)) && decide (v ≤ 40) && decide (r < 8) && true) = true
    have hz : v + 1 = lb (20 :: s) + (if r = 7 then 1 else 0) := by
      show v + 1 = 1 + lb s + (if r = 7 then 1 else 0)
      omega
    rw [show okS (20 :: s) 0 = true from okS_i rfl (Nat.zero_le _) hs, decide_eq_true hz, decide_eq_true h40, decide_eq_true hr]
    rfl
  rw [if_neg c5]
  by_cases c6 : k = 15
  · subst c6
    rw [if_pos rfl]
    refine ⟨_, (Ends.tk (s' := 76 :: 61 :: 74 :: 37 :: 75 :: X) (v' := v) rfl).go (go (Or.inl (by decide))), rel_i ?_ (by rw [← hX]; rfl)⟩
    show (okS (21 :: s) 0 && decide (v + 1 = lb (21 :: s) + (if r = 7 then 1 else 0)) && decide (v ≤ 40) && decide (r < 8) && true) = true
    have hz : v + 1 = lb (21 :: s) + (if r = 7 then 1 else 0) := by
      show v + 1 = 1 + lb s + (if r = 7 then 1 else 0)
      omega
    rw [show okS (21 :: s) 0 = true from okS_i rfl (Nat.zero_le _) hs, decide_eq_true hz, decide_eq_true h40, decide_eq_true hr]
    rfl
  rw [if_neg c6]
  have e : rst k 73 X v = none := by
    show (if k = 25 then _ else if k = 1 ∨ k = 2 ∨ k = 12 ∨ k = 13 then _ else if k = 36 then _ else if k = 14 ∨ k = 15 then _ else none) = none
    rw [if_neg c3, if_neg c1, if_neg c2, if_neg (by omega)]
  exact ⟨_, (Ends.no e).go (go (Or.inl c4)), rfl⟩
/-- nothing but a closing word can stand at the end of a rule -/
theorem sim_end (hk : k < 40) (hs : okS s 5 = true) (ht : tpo s = 0) (hv : v = lb s + (if r = 7 then 1 else 0)) (h40 : v ≤ 40) (hr : r < 8) : ∃ o, Ends k 10 (cc (bas r) (decide (r = 6)) s 6, v) o ∧ rel (cEnd k r v b s) o = true := by
  cases s with
  | nil =>
    have h := sim_clo r hr b k hk
    have hv : v = if r = 7 then 1 else 0 := by rw [hv]; exact Nat.zero_add _
    cases e : rx k 9 (bas r) (if r = 7 then 1 else 0) with
    | none => rw [e] at h; cases h
    | some o =>
      rw [e] at h
      exact ⟨o, ⟨9, by omega, by rw [hv]; exact e⟩, h⟩
  | cons a t =>
    obtain ⟨h1, h2, h3⟩ := okS_c hs
    have ht : hol a = 0 := ht
    have q : a = 36 ∨ a = 35 ∨ a = 20 ∨ a = 21 := by
      unfold val at h1
      rw [ht] at h1
      simp at h1
      omega
    have hv' : v = 1 + lb t + (if r = 7 then 1 else 0) := by
      rw [hv]
      show (if a = 9 ∨ a = 16 ∨ a = 19 ∨ a = 36 ∨ a = 35 ∨ a = 20 ∨ a = 21 then 1 else 0) + lb t + _ = _
      rw [if_pos (by omega)]
    have v1 : v - 1 + 1 = v := by omega
    have back : okS t 0 = true → okC (15, r, v - 1, t, b) = true := fun z => okC_i (Or.inl rfl) z (by omega) (by omega) hr
    rcases q with q | q | q | q
    · subst q
      show ∃ o, Ends k 10 (33 :: 61 :: 75 :: cc (bas r) (decide (r = 6)) t 6, v) o ∧ rel (if k = 33 then some (14, r, v, 19 :: t, b) else none) o = true
      by_cases c : k = 33
      · subst c
        rw [if_pos rfl]
        refine ⟨_, (Ends.tk (s' := 61 :: 75 :: cc (bas r) (decide (r = 6)) t 6) (v' := v) rfl).mo (by omega), rel_i (okC_i (Or.inr rfl) (okS_i rfl (by decide) h3) ?_ h40 hr) rfl⟩
        show v = 1 + lb t + _
        exact hv'
      · rw [if_neg c]
        have e : rst k 33 (61 :: 75 :: cc (bas r) (decide (r = 6)) t 6) v = none := by rw [rs_t33, if_neg (fun z => c z.symm)]
        exact ⟨_, (Ends.no e).mo (by omega), rfl⟩
    · subst q
      show ∃ o, Ends k 10 (37 :: 75 :: cc (bas r) (decide (r = 6)) t 0, v) o ∧ rel (if k = 37 then some (15, r, v - 1, t, b) else none) o = true
      by_cases c : k = 37
      · subst c
        rw [if_pos rfl]
        exact ⟨_, (Ends.tk (s' := 75 :: cc (bas r) (decide (r = 6)) t 0) (v' := v) rfl).mo (by omega), rel_j (back h3) (by show _ = (75 :: cc (bas r) (decide (r = 6)) t 0, v - 1 + 1); rw [v1])⟩
      · rw [if_neg c]
        have e : rst k 37 (75 :: cc (bas r) (decide (r = 6)) t 0) v = none := by rw [rs_t37, if_neg (fun z => c z.symm)]
        exact ⟨_, (Ends.no e).mo (by omega), rfl⟩
    all_goals
      subst q
      show ∃ o, Ends k 10 (74 :: 37 :: 75 :: cc (bas r) (decide (r = 6)) t 0, v) o ∧ rel (if k = 35 then some (14, r, v, _ :: t, b) else if k = 37 then some (15, r, v - 1, t, b) else none) o = true
      by_cases c : k = 35
      · subst c
        rw [if_pos rfl]
        refine ⟨_, (Ends.tk (s' := 61 :: 74 :: 37 :: 75 :: cc (bas r) (decide (r = 6)) t 0) (v' := v) rfl).mo (by omega), rel_i (okC_i (Or.inr rfl) (okS_i rfl (by decide) h3) ?_ h40 hr) rfl⟩
        show v = 1 + lb t + _
        exact hv'
      · rw [if_neg c]
        have e : rst k 74 (37 :: 75 :: cc (bas r) (decide (r = 6)) t 0) v = some (37 :: 75 :: cc (bas r) (decide (r = 6)) t 0, v, false) := if_neg c
        by_cases c' : k = 37
        · subst c'
          rw [if_pos rfl]
          exact ⟨_, (Ends.tk (s' := 75 :: cc (bas r) (decide (r = 6)) t 0) (v' := v) rfl).go (Go.st e), rel_j (back h3) (by show _ = (75 :: cc (bas r) (decide (r = 6)) t 0, v - 1 + 1); rw [v1])⟩
        · rw [if_neg c']
          have e2 : rst k 37 (75 :: cc (bas r) (decide (r = 6)) t 0) v = none := by rw [rs_t37, if_neg (fun z => c' z.symm)]
          exact ⟨_, (Ends.no e2).go (Go.st e), rfl⟩
end SIM
section SIM2
variable {r v k : Nat} {s : List Nat} {b : Bool}
theorem sim_opr (hk : k < 40) (hs : okS s 0 = true) (hv : v = lb s + (if r = 7 then 1 else 0)) (h40 : v ≤ 40) (hr : r < 8) : ∃ o, Ends k (4 * s.length + 40) (cc (bas r) (decide (r = 6)) s 0, v) o ∧ rel (cOpr k r v s b) o = true := by
  have lbs : ∀ h, 1 ≤ h → (bl h v s).1 = lb (bl h v s).2 + (if r = 7 then 1 else 0) := fun h h1 => bl_lb h1 s v hv
  have le40 : ∀ h, (bl h v s).1 ≤ 40 := fun h => Nat.le_trans (bl_le s v) h40
  have lens : ∀ h, (bl h v s).2.length ≤ s.length := fun h => bl_len s v
  have len5 := lens 5
  have len6 := lens 6
  unfold cOpr
  by_cases c1 : k = 26 ∨ k = 27 ∨ k = 28
  · rw [if_pos c1]
    obtain ⟨g, g2⟩ := to_72 (b := bas r) (ch := decide (r = 6)) (k := k) (v := v) hs
    have e : rst k 72 (cc (bas r) (decide (r = 6)) (bl 7 v s).2 1) (bl 7 v s).1 = some (73 :: 72 :: cc (bas r) (decide (r = 6)) (bl 7 v s).2 1, (bl 7 v s).1, true) := if_pos c1
    refine ⟨_, (Ends.tk e).go g, ?_⟩
    rcases c1 with c | c | c <;> subst c
    all_goals
      refine rel_i (okC_i (Or.inr rfl) (okS_i rfl (Nat.zero_le _) g2) ?_ (le40 7) hr) rfl
      show (bl 7 v s).1 = 0 + lb (bl 7 v s).2 + _
      have := lbs 7 (by decide)
      omega
  rw [if_neg c1]
  by_cases c2 : k = 24 ∨ k = 25
  · rw [if_pos c2]
    obtain ⟨g, g2⟩ := to_70 (b := bas r) (ch := decide (r = 6)) c1 (v := v) hs
    have e : rst k 70 (cc (bas r) (decide (r = 6)) (bl 6 v s).2 2) (bl 6 v s).1 = some (71 :: 70 :: cc (bas r) (decide (r = 6)) (bl 6 v s).2 2, (bl 6 v s).1, true) := if_pos c2
    refine ⟨_, (Ends.tk e).go g, ?_⟩
    rcases c2 with c | c <;> subst c
    all_goals
      refine rel_i (okC_i (Or.inr rfl) (okS_i rfl (Nat.zero_le _) g2) ?_ (le40 6) hr) rfl
      show (bl 6 v s).1 = 0 + lb (bl 6 v s).2 + _
      have := lbs 6 (by decide)
      omega
  rw [if_neg c2]
  obtain ⟨g6, o6⟩ := to_c2 (b := bas r) (ch := decide (r = 6)) c1 c2 (v := v) hs
  have t6 := bl_tp (h := 6) (by decide) s v
  obtain ⟨p1, p2, p3⟩ := ps_5 (b := bas r) (ch := decide (r = 6)) (v := (bl 6 v s).1) o6
  have e56 := bl_bl (h := 6) (h' := 5) (by decide) s v
  rw [← e56] at p1 p2 p3
  by_cases c3 : cmpk k = true
  · rw [if_pos c3]
    have k3 : 18 ≤ k ∧ k ≤ 23 := by
      unfold cmpk at c3
      simp at c3
      exact c3
    by_cases q : tpo (bl 6 v s).2 = 5
    · rw [if_pos q]
      rw [if_pos q] at p1
      rw [p1] at g6
      have gg := to_c6 (b := bas r) (ch := decide (r = 6)) (k := k) (by omega) (by omega) (by omega) (v := (bl 6 v s).1) p3
      obtain ⟨z1, z2, z3⟩ := gg
      have hv1 : (bl 6 v s).1 = lb (bl 5 v s).2 + (if r = 7 then 1 else 0) := by rw [← p2]; exact lbs 5 (by decide)
      obtain ⟨o, w1, w2⟩ := sim_end (b := b) (r := r) (k := k) hk z2 z3 (bl_lb (by decide) _ _ hv1) (Nat.le_trans (bl_le _ _) (le40 6)) hr
      refine ⟨o, w1.go (g6.t z1), ?_⟩
      have hn : cEnd k r (bl 1 (bl 6 v s).1 (bl 5 v s).2).1 b (bl 1 (bl 6 v s).1 (bl 5 v s).2).2 = none := by
        generalize (bl 1 (bl 6 v s).1 (bl 5 v s).2).2 = u
        generalize (bl 1 (bl 6 v s).1 (bl 5 v s).2).1 = y
        cases u with
        | nil =>
          show cClo k r b = none
          unfold cClo
          repeat' split
          all_goals first | rfl | omega
        | cons a u =>
          show (if a = 35 then _ else if a = 36 then _ else if a = 20 ∨ a = 21 then _ else none) = none
          repeat' split
          all_goals first | rfl | omega
      rw [hn] at w2
      exact w2
    · rw [if_neg q]
      rw [if_neg q] at p1
      rw [p1] at g6
      have e : rst k 68 (cc (bas r) (decide (r = 6)) (bl 5 v s).2 3) (bl 6 v s).1 = some (69 :: cc (bas r) (decide (r = 6)) (bl 5 v s).2 3, (bl 6 v s).1, true) := if_pos c3
      have s56 : (bl 5 v s).2 = (bl 6 v s).2 := by
        rw [e56, bl_id (show tpo (bl 6 v s).2 < 5 by omega)]
      rw [s56] at e g6 p3
      refine ⟨_, (Ends.tk e).go g6, ?_⟩
      have ho : 10 ≤ opc k ∧ opc k ≤ 15 := by
        unfold opc
        repeat' split
        all_goals omega
      have hh := hol_c ho
      refine rel_i (okC_i (Or.inr rfl) (okS_i ?_ (Nat.zero_le _) ?_) ?_ (le40 6) hr) ?_
      · unfold val
        rw [hh]
        rfl
      · have n : nxt (opc k) = 3 := by unfold nxt; rw [if_neg (by omega), if_neg (by omega), if_neg (by omega), if_pos (by omega)]
        rw [n]
        exact p3
      · show (bl 6 v s).1 = (if _ then 1 else 0) + lb (bl 6 v s).2 + _
        rw [if_neg (by omega)]
        have := lbs 6 (by decide)
        omega
      · show _ = (wnt r (opc k :: (bl 6 v s).2), (bl 6 v s).1)
        rw [wnt_c, if_neg (by omega), if_neg (by omega), if_pos hh]
        have e9 : cc (bas r) (decide (r = 6)) (opc k :: (bl 6 v s).2) 2 = cc (bas r) (decide (r = 6)) (bl 6 v s).2 3 := by
          conv => lhs; unfold cc
          rw [if_neg (by omega), if_neg (by omega), if_neg (by omega), if_pos ho]
          rfl
        rw [e9]
  rw [if_neg c3]
  -- no comparison: to the place behind it
  have g5 : Go k (s.length + 3) (cc (bas r) (decide (r = 6)) s 0, v) (cc (bas r) (decide (r = 6)) (bl 5 v s).2 3, (bl 5 v s).1) := by
    rw [p2]
    by_cases q : tpo (bl 6 v s).2 = 5
    · rw [if_pos q] at p1
      rw [p1] at g6
      exact g6.mo (by omega)
    · rw [if_neg q] at p1
      rw [p1] at g6
      exact g6.tr (Go.st (rst_68 c3 _ _))
  by_cases c4 : k = 29
  · rw [if_pos c4]
    obtain ⟨g, g2⟩ := to_66 (b := bas r) (ch := decide (r = 6)) (k := k) (v := (bl 5 v s).1) p3
    rw [← bl_bl (h := 5) (h' := 3) (by decide) s v] at g g2
    have e : rst k 66 (cc (bas r) (decide (r = 6)) (bl 3 v s).2 4) (bl 3 v s).1 = some (67 :: 66 :: cc (bas r) (decide (r = 6)) (bl 3 v s).2 4, (bl 3 v s).1, true) := if_pos c4
    refine ⟨_, (Ends.tk e).go (g5.t g), rel_i (okC_i (Or.inr rfl) (okS_i rfl (Nat.zero_le _) g2) ?_ (le40 3) hr) rfl⟩
    show (bl 3 v s).1 = 0 + lb (bl 3 v s).2 + _
    have := lbs 3 (by decide)
    omega
  rw [if_neg c4]
  by_cases c5 : k = 30
  · rw [if_pos c5]
    obtain ⟨g, g2⟩ := to_64 (b := bas r) (ch := decide (r = 6)) c4 (v := (bl 5 v s).1) p3
    rw [← bl_bl (h := 5) (h' := 2) (by decide) s v] at g g2
    have e : rst k 64 (cc (bas r) (decide (r = 6)) (bl 2 v s).2 5) (bl 2 v s).1 = some (65 :: 64 :: cc (bas r) (decide (r = 6)) (bl 2 v s).2 5, (bl 2 v s).1, true) := if_pos c5
    refine ⟨_, (Ends.tk e).go (g5.t g), rel_i (okC_i (Or.inr rfl) (okS_i rfl (Nat.zero_le _) g2) ?_ (le40 2) hr) rfl⟩
    show (bl 2 v s).1 = 0 + lb (bl 2 v s).2 + _
    have := lbs 2 (by decide)
    omega
  rw [if_neg c5]
  by_cases c6 : k = 32
  · rw [if_pos c6]
    obtain ⟨g, g2⟩ := to_c5 (b := bas r) (ch := decide (r = 6)) c4 c5 (v := (bl 5 v s).1) p3
    rw [← bl_bl (h := 5) (h' := 2) (by decide) s v] at g g2
    have t2 := bl_tp (h := 2) (by decide) s v
    by_cases q : (bl 2 v s).2 = [] ∧ r = 6
    · rw [if_pos q]
      obtain ⟨q1, q2⟩ := q
      subst q2
      rw [q1] at g
      have e : rst k 33 [58, 57, 34, 50] (bl 2 v s).1 = none := by rw [rs_t33, if_neg (by omega)]
      exact ⟨_, (Ends.no e).go (g5.t g), rfl⟩
    · rw [if_neg q]
      have q' : decide (r = 6) = false ∨ (bl 2 v s).2 ≠ [] := by
        by_cases z : r = 6
        · exact Or.inr fun y => q ⟨y, z⟩
        · exact Or.inl (decide_eq_false z)
      rw [cc_5 t2 q'] at g
      by_cases y : (bl 2 v s).1 < 40
      · rw [if_pos y]
        have e : rst k 62 (cc (bas r) (decide (r = 6)) (bl 2 v s).2 6) (bl 2 v s).1 = some (61 :: 33 :: 61 :: 75 :: cc (bas r) (decide (r = 6)) (bl 2 v s).2 6, (bl 2 v s).1 + 1, true) := by
          show (if k = 32 then _ else _) = _
          rw [if_pos c6, if_pos (by omega)]
        refine ⟨_, (Ends.tk e).go (g5.t g), rel_i (okC_i (Or.inr rfl) (okS_i rfl (Nat.zero_le _) g2) ?_ (by omega) hr) rfl⟩
        show (bl 2 v s).1 + 1 = 1 + lb (bl 2 v s).2 + _
        have := lbs 2 (by decide)
        omega
      · rw [if_neg y]
        have e : rst k 62 (cc (bas r) (decide (r = 6)) (bl 2 v s).2 6) (bl 2 v s).1 = none := by
          show (if k = 32 then _ else _) = _
          rw [if_pos c6, if_neg (by omega)]
        exact ⟨_, (Ends.no e).go (g5.t g), rfl⟩
  rw [if_neg c6]
  obtain ⟨g, g2, g3⟩ := to_c6 (b := bas r) (ch := decide (r = 6)) c4 c5 c6 (v := (bl 5 v s).1) p3
  rw [← bl_bl (h := 5) (h' := 1) (by decide) s v] at g g2 g3
  obtain ⟨o, w1, w2⟩ := sim_end (b := b) (r := r) (k := k) hk g2 g3 (lbs 1 (by decide)) (le40 1) hr
  exact ⟨o, w1.go (g5.t g), w2⟩
end SIM2
theorem and4 {a b c d : Bool} (h : (a && b && c && d) = true) : a = true ∧ b = true ∧ c = true ∧ d = true := by
  cases a <;> cases b <;> cases c <;> cases d <;> first | exact ⟨rfl, rfl, rfl, rfl⟩ | cases h
/-- A WORD, on both sides -/
theorem sim {c : Cs} {k : Nat} (hk : k < 40) (h0 : k ≠ 0) (h : okC c = true) : ∃ o, Ends k 1100 (phi c, lam c) o ∧ rel (cst k c) o = true := by
  obtain ⟨w, r, v, s, b⟩ := c
  have h : (if w = 15 ∨ w = 14 then okS s 0 && decide (v = lb s + (if r = 7 then 1 else 0)) && decide (v ≤ 40) && decide (r < 8)
    else if w = 13 then okS s 0 && decide (v + 1 = lb s + (if r = 7 then 1 else 0)) && decide (v ≤ 40) && decide (r < 8) && hdl s
    else decide (w < 13) && decide (r = 0) && decide (v = 0) && decide (s = [])) = true := h
  by_cases c1 : w = 15
  · subst c1
    rw [if_pos (Or.inl rfl)] at h
    obtain ⟨a1, a2, a3, a4⟩ := and4 h
    obtain ⟨o, z1, z2⟩ := sim_opr (b := b) hk a1 (of_decide_eq_true a2) (of_decide_eq_true a3) (of_decide_eq_true a4)
    have hl := ok_len s 0 a1
    have hv := of_decide_eq_true a2
    have h40 := of_decide_eq_true a3
    have hs : s.length ≤ 260 := by split at hv <;> omega
    exact ⟨o, z1.mo (by omega), z2⟩
  by_cases c2 : w = 14
  · subst c2
    rw [if_pos (Or.inr rfl)] at h
    obtain ⟨a1, a2, a3, a4⟩ := and4 h
    obtain ⟨o, z1, z2⟩ := sim_opd (b := b) (k := k) a1 (of_decide_eq_true a2) (of_decide_eq_true a3) (of_decide_eq_true a4)
    exact ⟨o, z1.mo (by omega), z2⟩
  rw [if_neg (by omega)] at h
  by_cases c3 : w = 13
  · subst c3
    rw [if_pos rfl] at h
    obtain ⟨h1, h2⟩ := Bool.and_eq_true_iff.mp h
    obtain ⟨a1, a2, a3, a4⟩ := and4 h1
    have a2 := of_decide_eq_true a2
    have a3 := of_decide_eq_true a3
    have a4 := of_decide_eq_true a4
    show ∃ o, Ends k 1100 (76 :: 61 :: cc (bas r) (decide (r = 6)) s 6, v) o ∧ rel (if k = 36 ∧ v < 40 then some (14, r, v + 1, s, b) else none) o = true
    by_cases q : k = 36 ∧ v < 40
    · rw [if_pos q]
      have e : rst k 76 (61 :: cc (bas r) (decide (r = 6)) s 6) v = some (61 :: cc (bas r) (decide (r = 6)) s 6, v + 1, true) := by rw [rs_76, if_pos (by omega)]
      refine ⟨_, (Ends.tk e).mo (by omega), rel_i (okC_i (Or.inr rfl) a1 (by omega) (by omega) a4) ?_⟩
      show _ = (wnt r s, v + 1)
      cases s with
      | nil => cases h2
      | cons a t =>
        have h2 : (decide (a = 20) || decide (a = 21)) = true := h2
        have : a = 20 ∨ a = 21 := by simpa using h2
        rcases this with y | y <;> subst y <;> rfl
    · rw [if_neg q]
      have e : rst k 76 (61 :: cc (bas r) (decide (r = 6)) s 6) v = none := by rw [rs_76, if_neg (by omega)]
      exact ⟨_, (Ends.no e).mo (by omega), rfl⟩
  rw [if_neg c3] at h
  obtain ⟨a1, a2, a3, a4⟩ := and4 h
  have a1 := of_decide_eq_true a1
  have a2 := of_decide_eq_true a2
  have a3 := of_decide_eq_true a3
  have a4 := of_decide_eq_true a4
  subst a2 a3 a4
  have z := sim_fin w a1 b k hk h0
  cases e : rx k 9 (phi (w, 0, 0, [], b)) (lam (w, 0, 0, [], b)) with
  | none => rw [e] at z; cases z
  | some o =>
    rw [e] at z
    exact ⟨o, ⟨9, by omega, e⟩, z⟩
