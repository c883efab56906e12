/-! the items, with their rules: an item is (operation of its head, its first word, its rules, latest first: role, tree) -/
abbrev It : Type := Nat × Nat × List (Nat × Tr)
/-- where a set may open -/
def So (w : List (Nat × Nat × Nat)) : List (Nat × Tr) → Nat → Prop
  | [], _ => False
  | (r, T) :: _, j0 => (r = 6 ∧ kK w (ew T) = 33 ∧ j0 = ew T + 1) ∨ (r = 7 ∧ kK w (ew T) = 37 ∧ kK w (ew T + 1) = 29 ∧ j0 = ew T + 2)
/-- where a rule may begin -/
def Bg (w : List (Nat × Nat × Nat)) (op k : Nat) (R : List (Nat × Tr)) (r a0 : Nat) : Prop :=
  (R = [] ∧ ((op = 27 ∨ op = 28) ∧ r = 0 ∧ a0 = k + 3 ∧ kK w (k + 1) = 1 ∧ kK w (k + 2) = 23)) ∨
  (R = [] ∧ (op = 29 ∧ r = 1 ∧ a0 = k + 3 ∧ kK w (k + 1) = 1 ∧ kK w (k + 2) = 33 ∧ kK w (k + 3) ≠ 5)) ∨
  (R = [] ∧ (op = 29 ∧ r = 3 ∧ a0 = k + 5 ∧ kK w (k + 1) = 1 ∧ kK w (k + 2) = 33 ∧ kK w (k + 3) = 5 ∧ kK w (k + 4) = 9)) ∨
  (R = [] ∧ (op = 30 ∧ r = 4 ∧ a0 = k + 1)) ∨
  (R = [] ∧ (op = 31 ∧ r = 5 ∧ a0 = k + 1)) ∨
  (∃ T R1, R = (1, T) :: R1 ∧ r = 2 ∧ kK w (ew T) = 16 ∧ a0 = ew T + 1) ∨
  (∃ T R1, R = (2, T) :: R1 ∧ r = 3 ∧ kK w (ew T) = 9 ∧ a0 = ew T + 1) ∨
  (∃ T R1, R = (5, T) :: R1 ∧ r = 6 ∧ kK w (ew T) = 17 ∧ a0 = ew T + 1) ∨
  (∃ T R1, R = (6, T) :: R1 ∧ r = 6 ∧ kK w (ew T) = 33 ∧ kK w (ew T + 1) = 10 ∧ kK w (ew T + 2) = 24 ∧ a0 = ew T + 3) ∨
  (∃ T R1, R = (7, T) :: R1 ∧ r = 6 ∧ kK w (ew T) = 37 ∧ kK w (ew T + 1) = 24 ∧ a0 = ew T + 2) ∨
  (r = 7 ∧ ∃ j0, So w R j0 ∧ kK w j0 = 36 ∧ kK w (j0 + 1) = 1 ∧ kK w (j0 + 2) = 38 ∧ kK w (j0 + 3) = 23 ∧ a0 = j0 + 4)
/-- the rules of an item stand where they may -/
def Ch (w : List (Nat × Nat × Nat)) (op k : Nat) : List (Nat × Tr) → Prop
  | [] => True
  | (r, T) :: R => Ch w op k R ∧ Wf w T ∧ lev T ≤ 6 ∧ Bg w op k R r (bw T)
/-- where an item may end -/
def Fi (w : List (Nat × Nat × Nat)) (op k : Nat) (R : List (Nat × Tr)) (e : Nat) : Prop := kK w e = 34 ∧
  ((R = [] ∧ op = 29 ∧ kK w (k + 1) = 1 ∧ kK w (k + 2) = 33 ∧ kK w (k + 3) = 5 ∧ e = k + 4) ∨
   (∃ r T R1, R = (r, T) :: R1 ∧ (((r = 0 ∨ r = 2 ∨ r = 3 ∨ r = 4) ∧ e = ew T) ∨ (r = 6 ∧ kK w (ew T) = 33 ∧ kK w (ew T + 1) = 10 ∧ e = ew T + 2) ∨ (r = 7 ∧ kK w (ew T) = 37 ∧ e = ew T + 1))))
def opw (op kk : Nat) : Prop := (op = 27 ∧ kk = 3) ∨ (op = 28 ∧ kk = 6) ∨ (op = 29 ∧ kk = 4) ∨ (op = 30 ∧ kk = 11) ∨ (op = 31 ∧ (kk = 7 ∨ kk = 8))
/-- the head's node -/
def Hp1 (w : List (Nat × Nat × Nat)) (M : Nat → Nat → Int32) (h op k : Nat) : Prop := M h 0 = nI op ∧ M h 1 = nI (kP w k) ∧ (op = 31 → M h 2 = nI (kK w k - 6))
def Hp2 (w : List (Nat × Nat × Nat)) (M : Nat → Nat → Int32) (h op k : Nat) : Prop := Hp1 w M h op k ∧ (op ≤ 29 → M h 2 = nI (kP w (k + 1)) ∧ M h 3 = nI (kE w (k + 1) - kP w (k + 1)))
def Hn (w : List (Nat × Nat × Nat)) (M : Nat → Nat → Int32) (h op k : Nat) : Prop := Hp2 w M h op k ∧ (op = 29 → M h 4 = if kK w (k + 3) = 5 then 2 else 1)
def mk (r : Nat) : Nat := if r = 6 ∨ r = 7 then 1 else 0
/-- what stands ahead of a rule: a branch, a set -/
def Mkr (w : List (Nat × Nat × Nat)) (M : Nat → Nat → Int32) (r n1 a0 : Nat) : Prop := (r = 6 → M n1 0 = 32 ∧ M n1 3 = -1 ∧ M n1 4 = -1) ∧ (r = 7 → M n1 0 = 33 ∧ M n1 1 = nI (kP w (a0 - 4)) ∧ M n1 2 = nI (kP w (a0 - 3)) ∧ M n1 3 = nI (kE w (a0 - 3) - kP w (a0 - 3)) ∧ M n1 4 = -1)
/-- a rule's end -/
def Re (w : List (Nat × Nat × Nat)) (M : Nat → Nat → Int32) (i a0 r rs : Nat) : Prop := M i 0 = 26 ∧ M i 1 = nI (kP w a0) ∧ M i 2 = nI (i - 1) ∧ M i 3 = nI r ∧ M i 4 = nI rs
/-- the nodes of an item, from the h-th on -/
def Lay (l : List Int32) (w : List (Nat × Nat × Nat)) (M : Nat → Nat → Int32) (op k h : Nat) : List (Nat × Tr) → Nat → Prop
  | [], n => Hn w M h op k ∧ n = h + 1
  | (r, T) :: R, n => ∃ n1, Lay l w M op k h R n1 ∧ Mkr w M r n1 (bw T) ∧ (r = 6 → M n1 1 = nI (kP w (bw T))) ∧ Co l w M T (n1 + mk r) ∧ Re w M (n1 + mk r + tln T) (bw T) r (n1 + mk r) ∧ n = n1 + mk r + tln T + 1
/-- the items: nodes up to n, words up to i -/
def IL (l : List Int32) (w : List (Nat × Nat × Nat)) (M : Nat → Nat → Int32) : List It → Nat → Nat → Prop
  | [], n, i => n = 0 ∧ i = 0
  | (op, k, R) :: I, n, i => ∃ n0 n1 e, IL l w M I n0 k ∧ opw op (kK w k) ∧ Ch w op k R ∧ Lay l w M op k n0 R n1 ∧ Fi w op k R e ∧ M n1 0 = 34 ∧ n = n1 + 1 ∧ i = e + 1
section IT
variable {l : List Int32} {w : List (Nat × Nat × Nat)} {M M' : Nat → Nat → Int32} {op k h : Nat}
theorem Lay.le : ∀ {R : List (Nat × Tr)} {n : Nat}, Lay l w M op k h R n → h < n := by
  intro R
  induction R with
  | nil => intro n q; have := q.2; omega
  | cons x R ih =>
    obtain ⟨r, T⟩ := x
    intro n q
    obtain ⟨n1, q1, -, -, -, -, q2⟩ := q
    have := ih q1
    omega
theorem Hn.fr {h : Nat} (q : Hn w M h op k) (e : M' h = M h) : Hn w M' h op k := by
  unfold Hn Hp2 Hp1
  rw [e]
  exact q
theorem Mkr.fr {r n1 a0 : Nat} (q : Mkr w M r n1 a0) (e : M' n1 = M n1) : Mkr w M' r n1 a0 := by
  unfold Mkr
  rw [e]
  exact q
theorem Re.fr {i a0 r rs : Nat} (q : Re w M i a0 r rs) (e : M' i = M i) : Re w M' i a0 r rs := by
  unfold Re
  rw [e]
  exact q
theorem Lay.fr : ∀ {R : List (Nat × Tr)} {n : Nat}, Lay l w M op k h R n → (∀ j, h ≤ j → j < n → M' j = M j) → Lay l w M' op k h R n := by
  intro R
  induction R with
  | nil => intro n q e; exact ⟨q.1.fr (e h (Nat.le_refl h) (by have := q.2; omega)), q.2⟩
  | cons x R ih =>
    obtain ⟨r, T⟩ := x
    intro n q e
    obtain ⟨n1, q1, q2, q3, q4, q5, q6⟩ := q
    have hl := q1.le
    have hm : mk r ≤ 1 := by unfold mk; split <;> omega
    have pT := tln_pos T
    refine ⟨n1, ih q1 (fun j a b => e j a (by omega)), q2.fr (e n1 (by omega) (by omega)), fun z => ?_, q4.fr (fun j a b => e j (by omega) (by omega)), q5.fr (e _ (by omega) (by omega)), q6⟩
    rw [e n1 (by omega) (by omega)]
    exact q3 z
theorem IL.fr : ∀ {I : List It} {n i : Nat}, IL l w M I n i → (∀ j, j < n → M' j = M j) → IL l w M' I n i := by
  intro I
  induction I with
  | nil => intro n i q _; exact q
  | cons x I ih =>
    obtain ⟨op, k, R⟩ := x
    intro n i q e
    obtain ⟨n0, n1, e1, q1, q2, q3, q4, q5, q6, q7, q8⟩ := q
    have hl := q4.le
    refine ⟨n0, n1, e1, ih q1 (fun j b => e j (by omega)), q2, q3, q4.fr (fun j _ b => e j (by omega)), q5, ?_, q7, q8⟩
    rw [e n1 (by omega)]
    exact q6
end IT
/-- how far an item is read -/
def PS (l : List Int32) (w : List (Nat × Nat × Nat)) (p : Nat → Int32) (W : List (Nat → Int32)) (n : Nat) (M : Nat → Nat → Int32) (wt r : Nat) (s : List Nat) (h op k : Nat) (R : List (Nat × Tr)) (i : Nat) : Prop :=
  if 13 ≤ wt then ∃ n1 a0, Lay l w M op k h R n1 ∧ Bg w op k R r a0 ∧ Mkr w M r n1 a0 ∧ p 9 = nI r ∧ (r = 6 → p 15 = nI n1) ∧ GR l w (p, W, n, M) wt s (n1 + mk r) a0 i
  else if wt = 1 then R = [] ∧ op ≤ 29 ∧ Hp1 w M h op k ∧ n = h + 1 ∧ i = k + 1
  else if wt = 2 then R = [] ∧ op ≤ 28 ∧ Hp2 w M h op k ∧ n = h + 1 ∧ i = k + 2 ∧ kK w (k + 1) = 1
  else if wt = 3 then R = [] ∧ op = 29 ∧ Hp2 w M h op k ∧ n = h + 1 ∧ i = k + 2 ∧ kK w (k + 1) = 1
  else if wt = 4 then R = [] ∧ op = 29 ∧ Hp2 w M h op k ∧ n = h + 1 ∧ i = k + 3 ∧ kK w (k + 1) = 1 ∧ kK w (k + 2) = 33
  else if wt = 5 then Lay l w M op k h R n ∧ R = [] ∧ op = 29 ∧ i = k + 4 ∧ kK w (k + 1) = 1 ∧ kK w (k + 2) = 33 ∧ kK w (k + 3) = 5
  else if wt = 6 then Lay l w M op k h R n ∧ ∃ T R1, R = (6, T) :: R1 ∧ kK w (ew T) = 33 ∧ i = ew T + 1
  else if wt = 7 then Lay l w M op k h R n ∧ ∃ T R1, R = (6, T) :: R1 ∧ kK w (ew T) = 33 ∧ kK w (ew T + 1) = 10 ∧ i = ew T + 2
  else if wt = 8 then Lay l w M op k h R n ∧ So w R i
  else if wt = 9 then Lay l w M op k h R n ∧ ∃ j0, So w R j0 ∧ kK w j0 = 36 ∧ p 16 = nI (kP w j0) ∧ i = j0 + 1
  else if wt = 10 then ∃ n1 j0, Lay l w M op k h R n1 ∧ n = n1 + 1 ∧ So w R j0 ∧ kK w j0 = 36 ∧ kK w (j0 + 1) = 1 ∧ Mkr w M 7 n1 (j0 + 4) ∧ i = j0 + 2
  else if wt = 11 then ∃ n1 j0, Lay l w M op k h R n1 ∧ n = n1 + 1 ∧ So w R j0 ∧ kK w j0 = 36 ∧ kK w (j0 + 1) = 1 ∧ kK w (j0 + 2) = 38 ∧ Mkr w M 7 n1 (j0 + 4) ∧ i = j0 + 3
  else Lay l w M op k h R n ∧ ∃ T R1, R = (7, T) :: R1 ∧ kK w (ew T) = 37 ∧ i = ew T + 1
def PX (l : List Int32) (w : List (Nat × Nat × Nat)) (p : Nat → Int32) (W : List (Nat → Int32)) (n : Nat) (M : Nat → Nat → Int32) (wt r : Nat) (s : List Nat) (b : Bool) (i : Nat) : Prop :=
  if wt = 0 then ∃ I, IL l w M I n i
  else ∃ (I : List It) (h op k : Nat) (R : List (Nat × Tr)), IL l w M I h k ∧ p 14 = nI h ∧ opw op (kK w k) ∧ Ch w op k R ∧ (b = true ↔ op = 29) ∧ PS l w p W n M wt r s h op k R i
abbrev PZ (l : List Int32) (w : List (Nat × Nat × Nat)) (X : Xs) (c : Cs) (i : Nat) : Prop := PX l w X.1 X.2.1 X.2.2.1 X.2.2.2 c.1 c.2.1 c.2.2.2.1 c.2.2.2.2 i
section PY
variable {l : List Int32} {w : List (Nat × Nat × Nat)} {p : Nat → Int32} {W : List (Nat → Int32)} {n i h op k r : Nat} {M : Nat → Nat → Int32} {R : List (Nat × Tr)} {I : List It} {b : Bool}
/-- a rule begins -/
theorem PX.ru (hI : IL l w M I h k) (h14 : p 14 = nI h) (ho : opw op (kK w k)) (hc : Ch w op k R) (hb : b = true ↔ op = 29) {n1 : Nat} (hL : Lay l w M op k h R n1) (hB : Bg w op k R r i) (hM : Mkr w M r n1 i) (h15 : r = 6 → p 15 = nI n1) (hn : n = n1 + mk r) (hn9 : n < 24900) : PZ l w (xopen (nI r) (p, W, n, M)) (opens r b) i := by
  show PX l w (up (up (up (up (up p 9 (nI r)) 10 (-1)) 11 (nI n)) 12 (if nI r = 7 then 1 else 0)) 8 14) [] n M 14 r [] b i
  unfold PX
  rw [if_neg (by decide)]
  refine ⟨I, h, op, k, R, hI, h14, ho, hc, hb, ?_⟩
  unfold PS
  rw [if_pos (by decide)]
  refine ⟨n1, i, hL, hB, hM, rfl, h15, [], rfl, ?_, fun _ => rfl, fun z => absurd z (Nat.lt_irrefl i), Nat.le_refl i, hn9, ?_⟩
  · show nI n = _
    rw [hn]
  · rw [if_neg (by decide), if_pos rfl]
    exact ⟨hn, rfl⟩
/-- an item is done -/
theorem PX.fi {st : Int32} (hI : IL l w M I h k) (ho : opw op (kK w k)) (hc : Ch w op k R) (hL : Lay l w M op k h R n) (hF : Fi w op k R i) : PZ l w (xfin st (p, W, n, M)) (0, 0, 0, [], false) (i + 1) := by
  show PX l w (up p 8 0) W (n + 1) (ndd M n (nv8 34 st (-1) (-1) (-1))) 0 0 [] false (i + 1)
  unfold PX
  rw [if_pos rfl]
  have hl := hL.le
  exact ⟨(op, k, R) :: I, h, n, i, hI.fr (fun j a => ndd_o M _ (n := n) (by omega)), ho, hc, hL.fr (fun j _ a => ndd_o M _ (n := n) (by omega)), hF, by rw [ndd_s]; rfl, rfl, rfl⟩
/-- a branch begins -/
theorem PX.br (hI : IL l w M I h k) (h14 : p 14 = nI h) (ho : opw op (kK w k)) (hc : Ch w op k R) (hb : b = true ↔ op = 29) (hL : Lay l w M op k h R n) (hB : Bg w op k R 6 i) (hn9 : n < 24890) : PZ l w (xbr (p, W, n, M)) (opens 6 b) i := by
  have hl := hL.le
  refine PX.ru (r := 6) (p := up p 15 (nI n)) (n := n + 1) (n1 := n) (M := ndd M n (nv8 32 (-1) (-1) (-1) (-1))) (hI.fr (fun j a => ndd_o M _ (n := n) (by omega))) ?_ ho hc hb (hL.fr (fun j _ a => ndd_o M _ (n := n) (by omega))) hB ⟨fun _ => ?_, fun z => absurd z (by decide)⟩ (fun _ => rfl) rfl (by omega)
  · exact h14
  · rw [ndd_s]; exact ⟨rfl, rfl, rfl⟩
end PY
