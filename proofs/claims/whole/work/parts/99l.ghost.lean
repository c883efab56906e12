/-! what waits in the class's parser, with the trees -/
def nd (op k : Nat) (l r : Tr) : Tr := .branch (op + 64 * k) l r
section ND
variable {op k : Nat} {l r : Tr} {w : List (Nat × Nat × Nat)}
theorem nd_m (h : op < 64) : (op + 64 * k) % 64 = op := by omega
theorem nd_d (h : op < 64) : (op + 64 * k) / 64 = k := by omega
theorem tln_nd (h : op < 64) : tln (nd op k l r) = lnc op (tln l) (tln r) := by
  show lnc ((op + 64 * k) % 64) (tln l) (tln r) = _
  rw [nd_m h]
theorem bw_nd (h : op < 64) : bw (nd op k l r) = if un op then k else bw l := by
  show (if un ((op + 64 * k) % 64) then (op + 64 * k) / 64 else bw l) = _
  rw [nd_m h, nd_d h]
theorem ew_nd (h : op < 64) : ew (nd op k l r) = if op = 35 ∨ op = 22 then ew r + 1 else ew r := by
  show (if (op + 64 * k) % 64 = 35 ∨ (op + 64 * k) % 64 = 22 then ew r + 1 else ew r) = _
  rw [nd_m h]
theorem lev_nd (h : op < 64) : lev (nd op k l r) = lvo op := by
  show lvo ((op + 64 * k) % 64) = _
  rw [nd_m h]
theorem Wf_nd (h : op < 64) : Wf w (nd op k l r) ↔ (un op = false → Wf w l) ∧ Wf w r ∧ (op = 22 → fo (kK w k + 6 + 64 * k) r) ∧ wfn w op k (ew l) (lev l) (bw r) (ew r) (lev r) := by
  show ((un ((op + 64 * k) % 64) = false → Wf w l) ∧ Wf w r ∧ ((op + 64 * k) % 64 = 22 → fo (kK w ((op + 64 * k) / 64) + 6 + 64 * ((op + 64 * k) / 64)) r) ∧ wfn w ((op + 64 * k) % 64) ((op + 64 * k) / 64) (ew l) (lev l) (bw r) (ew r) (lev r)) ↔ _
  rw [nd_m h, nd_d h]
theorem Code_nd {Lf : Nat → Nat → Prop} {M : Nat → Nat → Int32} {a : Nat} (h : op < 64) : Code Lf M w (nd op k l r) a ↔
    if op = 9 ∨ op = 16 ∨ op = 22 then Code Lf M w r a ∧ Nd M (a + tln r) op (kP w k) (nI (a + tln r - 1)) (-1) (-1)
    else if op = 35 then Code Lf M w r a
    else if op = 17 ∨ op = 18 then Code Lf M w l a ∧ Nj M (a + tln l) (op + 6) (nI (a + tln l - 1)) (nI (a + tln l + 1 + tln r)) ∧ Code Lf M w r (a + tln l + 1) ∧ Nd M (a + tln l + 1 + tln r) op (kP w k) (nI (a + tln l - 1)) (nI (a + tln l + tln r)) (-1)
    else if op = 19 then Code Lf M w l a ∧ Nj M (a + tln l) 23 (nI (a + tln l - 1)) (nI (a + tln l + 1 + fln r + 1)) ∧ Code Lf M w r (a + tln l + 1) ∧ Nd M (a + tln l + 1 + tln r) 19 (kP w k) (nI (a + tln l - 1)) (nI (a + tln l + fln r)) (nI (a + tln l + tln r))
    else if op = 37 then Code Lf M w l a ∧ Nj M (a + tln l) 25 (-1) (nI (a + tln l + 1 + tln r)) ∧ Code Lf M w r (a + tln l + 1)
    else Code Lf M w l a ∧ Code Lf M w r (a + tln l) ∧ Nd M (a + tln l + tln r) op (kP w k) (nI (a + tln l - 1)) (nI (a + tln l + tln r - 1)) (-1) := by
  show Code Lf M w (.branch (op + 64 * k) l r) a ↔ _
  conv => lhs; unfold Code
  rw [nd_m h, nd_d h]
end ND
abbrev Gh : Type := Nat × Nat × Tr × Tr
/-- an entry that waits, with what it bears: nodes from n0 to n, words from i0 to i -/
def GE (l : List Int32) (w : List (Nat × Nat × Nat)) (M : Nat → Nat → Int32) (e : Nat → Int32) (op k : Nat) (L X : Tr) (n0 i0 n i : Nat) : Prop := e 0 = nI op ∧ e 1 = nI (kP w k) ∧
  (if op = 9 ∨ op = 16 ∨ op = 35 then k = i0 ∧ n = n0 ∧ i = i0 + 1 ∧ kK w k = (if op = 9 then 25 else if op = 16 then 31 else 36) ∧ e 4 = -1
   else if op = 20 ∨ op = 21 then k = i0 ∧ kK w k + 6 = op ∧ kK w (k + 1) = 36 ∧ e 4 = -1 ∧ ((e 3 = -1 ∧ n = n0 ∧ i = i0 + 2) ∨ (e 3 = nI (n - 1) ∧ Wf w X ∧ lev X ≤ 7 ∧ fo (op + 64 * k) X ∧ bw X = k + 2 ∧ kK w (ew X) = 35 ∧ i = ew X + 1 ∧ Co l w M X n0 ∧ n = n0 + tln X))
   else Wf w L ∧ bw L = i0 ∧ ew L = k ∧ Co l w M L n0 ∧ e 2 = nI (n0 + tln L - 1) ∧
    (if op = 36 ∨ op = 17 ∨ op = 18 then lev L ≤ (if op = 17 then 4 else 5) ∧ kK w k = (if op = 36 then 32 else opk op) ∧ M (n0 + tln L) 0 = nI (if op = 18 then 24 else 23) ∧ M (n0 + tln L) 2 = nI (n0 + tln L - 1) ∧ e 4 = nI (n0 + tln L) ∧ n = n0 + tln L + 1 ∧ i = k + 1
     else if op = 19 then lev L ≤ 5 ∧ kK w k = 32 ∧ Nj M (n0 + tln L) 23 (nI (n0 + tln L - 1)) (nI (n0 + tln L + 1 + tln X + 1)) ∧ Wf w X ∧ lev X ≤ 6 ∧ bw X = k + 1 ∧ kK w (ew X) = 33 ∧ Co l w M X (n0 + tln L + 1) ∧ M (n0 + tln L + 1 + tln X) 0 = 25 ∧ M (n0 + tln L + 1 + tln X) 2 = -1 ∧ e 3 = nI (n0 + tln L + tln X) ∧ e 4 = nI (n0 + tln L + 1 + tln X) ∧ n = n0 + tln L + 1 + tln X + 1 ∧ i = ew X + 1
     else bin op = true ∧ lev L ≤ lL op ∧ kK w k = opk op ∧ e 4 = -1 ∧ n = n0 + tln L ∧ i = k + 1))
def GS (l : List Int32) (w : List (Nat × Nat × Nat)) (M : Nat → Nat → Int32) (rs a0 : Nat) : List (Nat → Int32) → List Gh → Nat → Nat → Prop
  | [], [], n, i => n = rs ∧ i = a0
  | e :: W, g :: G, n, i => ∃ n0 i0, GS l w M rs a0 W G n0 i0 ∧ GE l w M e g.1 g.2.1 g.2.2.1 g.2.2.2 n0 i0 n i
  | _, _, _, _ => False
theorem bw_ew (w : List (Nat × Nat × Nat)) : ∀ T : Tr, Wf w T → bw T < ew T := by
  intro T
  induction T with
  | leaf k => intro _; exact Nat.lt_succ_self k
  | branch n l r il ir =>
    intro h
    obtain ⟨h1, h2, -, h3⟩ := h
    have hr := ir h2
    unfold wfn at h3
    show (if un (n % 64) then n / 64 else bw l) < (if n % 64 = 35 ∨ n % 64 = 22 then ew r + 1 else ew r)
    by_cases c : un (n % 64) = true
    · rw [if_pos c]
      have c' : n % 64 = 9 ∨ n % 64 = 16 ∨ n % 64 = 35 ∨ n % 64 = 22 := by
        simp only [un, Bool.or_eq_true, decide_eq_true_eq] at c
        omega
      rcases c' with e | e | e | e <;> rw [e] at h3 ⊢ <;> simp only [] at h3 ⊢
      · simp at h3 ⊢; omega
      · simp at h3 ⊢; omega
      · simp at h3 ⊢; omega
      · simp at h3 ⊢; omega
    · have c0 : un (n % 64) = false := by simpa using c
      rw [if_neg c]
      have hl := il (h1 c0)
      simp only [un, Bool.or_eq_false_iff, decide_eq_false_iff_not] at c0
      rw [if_neg (by omega), if_neg (by omega), if_neg (by omega), if_neg (by omega)] at h3
      rw [if_neg (by omega)]
      repeat' split at h3
      all_goals omega
section GG
variable {l : List Int32} {w : List (Nat × Nat × Nat)} {M M' : Nat → Nat → Int32} {rs a0 : Nat}
theorem GE.le {e : Nat → Int32} {op k : Nat} {L X : Tr} {n0 i0 n i : Nat} (h : GE l w M e op k L X n0 i0 n i) : n0 ≤ n ∧ i0 < i := by
  obtain ⟨-, -, h⟩ := h
  by_cases c1 : op = 9 ∨ op = 16 ∨ op = 35
  · rw [if_pos c1] at h; omega
  rw [if_neg c1] at h
  by_cases c2 : op = 20 ∨ op = 21
  · rw [if_pos c2] at h
    obtain ⟨h1, -, -, -, h⟩ := h
    rcases h with ⟨-, h2, h3⟩ | ⟨-, x1, -, -, h2, -, h3, -, h4⟩
    · omega
    · have := bw_ew w X x1; omega
  rw [if_neg c2] at h
  obtain ⟨x1, h1, h2, -, -, h⟩ := h
  have q := bw_ew w L x1
  by_cases c3 : op = 36 ∨ op = 17 ∨ op = 18
  · rw [if_pos c3] at h
    obtain ⟨-, -, -, -, -, h3, h4⟩ := h
    omega
  rw [if_neg c3] at h
  by_cases c4 : op = 19
  · rw [if_pos c4] at h
    obtain ⟨-, -, -, x2, -, h5, -, -, -, -, -, -, h3, h4⟩ := h
    have := bw_ew w X x2
    omega
  rw [if_neg c4] at h
  obtain ⟨-, -, -, -, h3, h4⟩ := h
  omega
theorem GE.fr {e : Nat → Int32} {op k : Nat} {L X : Tr} {n0 i0 n i : Nat} (h : GE l w M e op k L X n0 i0 n i) (hM : ∀ j, n0 ≤ j → j < n → M' j = M j) : GE l w M' e op k L X n0 i0 n i := by
  obtain ⟨h1, h2, h⟩ := h
  refine ⟨h1, h2, ?_⟩
  by_cases c1 : op = 9 ∨ op = 16 ∨ op = 35
  · rw [if_pos c1] at h ⊢; exact h
  rw [if_neg c1] at h ⊢
  by_cases c2 : op = 20 ∨ op = 21
  · rw [if_pos c2] at h ⊢
    obtain ⟨q1, q2, q3, q4, h⟩ := h
    refine ⟨q1, q2, q3, q4, ?_⟩
    rcases h with h | ⟨y1, y2, y3, y4, y5, y6, y7, y8, y9⟩
    · exact Or.inl h
    · exact Or.inr ⟨y1, y2, y3, y4, y5, y6, y7, y8.fr (fun j a b => hM j a (by omega)), y9⟩
  rw [if_neg c2] at h ⊢
  obtain ⟨x1, x2, x3, x4, x5, h⟩ := h
  have p1 := tln_pos L
  by_cases c3 : op = 36 ∨ op = 17 ∨ op = 18
  · rw [if_pos c3] at h ⊢
    obtain ⟨y1, y2, y3, y4, y5, y6, y7⟩ := h
    refine ⟨x1, x2, x3, x4.fr (fun j a b => hM j a (by omega)), x5, y1, y2, ?_, ?_, y5, y6, y7⟩
    · rw [hM _ (by omega) (by omega)]; exact y3
    · rw [hM _ (by omega) (by omega)]; exact y4
  rw [if_neg c3] at h ⊢
  by_cases c4 : op = 19
  · rw [if_pos c4] at h ⊢
    obtain ⟨y1, y2, y3, y4, y5, y6, y7, y8, y9, z1, z2, z3, z4, z5⟩ := h
    refine ⟨x1, x2, x3, x4.fr (fun j a b => hM j a (by omega)), x5, y1, y2, y3.fr (hM _ (by omega) (by omega)), y4, y5, y6, y7, y8.fr (fun j a b => hM j (by omega) (by omega)), ?_, ?_, z2, z3, z4, z5⟩
    · rw [hM _ (by omega) (by omega)]; exact y9
    · rw [hM _ (by omega) (by omega)]; exact z1
  rw [if_neg c4] at h ⊢
  obtain ⟨y1, y2, y3, y4, y5, y6⟩ := h
  exact ⟨x1, x2, x3, x4.fr (fun j a b => hM j a (by omega)), x5, y1, y2, y3, y4, y5, y6⟩
theorem GS.le : ∀ {W : List (Nat → Int32)} {G : List Gh} {n i : Nat}, GS l w M rs a0 W G n i → rs ≤ n ∧ a0 ≤ i := by
  intro W
  induction W with
  | nil =>
    intro G n i h
    cases G with
    | nil => obtain ⟨h1, h2⟩ := h; omega
    | cons g G => exact h.elim
  | cons e W ih =>
    intro G n i h
    cases G with
    | nil => exact h.elim
    | cons g G =>
      obtain ⟨n0, i0, h1, h2⟩ := h
      have := ih h1
      have := h2.le
      omega
theorem GS.fr : ∀ {W : List (Nat → Int32)} {G : List Gh} {n i : Nat}, GS l w M rs a0 W G n i → (∀ j, rs ≤ j → j < n → M' j = M j) → GS l w M' rs a0 W G n i := by
  intro W
  induction W with
  | nil =>
    intro G n i h _
    cases G with
    | nil => exact h
    | cons g G => exact h.elim
  | cons e W ih =>
    intro G n i h hM
    cases G with
    | nil => exact h.elim
    | cons g G =>
      obtain ⟨n0, i0, h1, h2⟩ := h
      have q1 := h1.le
      have q2 := h2.le
      exact ⟨n0, i0, ih h1 (fun j a b => hM j a (by omega)), h2.fr (fun j a b => hM j (by omega) b)⟩
theorem GS.opl : ∀ {W : List (Nat → Int32)} {G : List Gh} {n i : Nat}, GS l w M rs a0 W G n i → ops W = (G.map fun g => g.1).map nI := by
  intro W
  induction W with
  | nil =>
    intro G n i h
    cases G with
    | nil => rfl
    | cons g G => exact h.elim
  | cons e W ih =>
    intro G n i h
    cases G with
    | nil => exact h.elim
    | cons g G =>
      obtain ⟨n0, i0, h1, h2⟩ := h
      show e 0 :: ops W = nI g.1 :: (G.map fun g => g.1).map nI
      rw [ih h1, h2.1]
end GG
/-- the greatest looseness of what stands behind an entry -/
def lim (op : Nat) : Nat := if op = 6 ∨ op = 7 ∨ op = 8 ∨ op = 9 then 0 else if op = 4 ∨ op = 5 then 1 else if 10 ≤ op ∧ op ≤ 15 then 2 else if op = 16 ∨ op = 17 then 3 else if op = 18 then 4 else 6
def limS (s : List Nat) : Nat := match s with
  | [] => 6
  | a :: _ => lim a
theorem lim_adj : ∀ a, a < 40 → ∀ b, b < 40 → 1 ≤ hol a → val b = true → nxt a ≤ lmt (hol b) → lvo a ≤ lim b := by decide +kernel
theorem lvo_6 : ∀ a, a < 40 → 1 ≤ hol a → lvo a ≤ 6 := by decide
/-- how loose what is built may be -/
def lvh (h : Nat) : Nat := if h = 7 then 1 else if h = 6 then 2 else if h = 5 ∨ h = 4 then 3 else if h = 3 then 4 else if h = 2 then 5 else if h = 1 then 6 else 0
theorem lvh_ok : ∀ a, a < 40 → ∀ h, h < 9 → 1 ≤ h → h ≤ hol a → lvo a ≤ lvh h := by decide +kernel
theorem okS_lim {a i : Nat} {s : List Nat} (h : okS (a :: s) i = true) (ha : a < 40) (hs : sm s = true) (h1 : 1 ≤ hol a) : lvo a ≤ limS s := by
  obtain ⟨-, -, q⟩ := okS_c h
  cases s with
  | nil => exact lvo_6 a ha h1
  | cons b s =>
    have hs : (decide (b < 40) && sm s) = true := hs
    obtain ⟨h2, h3, -⟩ := okS_c q
    exact lim_adj a ha b (of_decide_eq_true (Bool.and_eq_true_iff.mp hs).1) h1 h2 h3
