/-! TREES: leaf k: an operand, the k-th word; branch (op + 64 * k) l r: an operation of the class, told of at the k-th word. 9, 16 sign and not (r alone), 35 brackets (r alone), 22 a list (r alone: its parts), 20 and 21 parts of a list, 19 a choice (r: 37, the two that are chosen from) -/
abbrev Tr : Type := Lean.RArray Nat
def kK (w : List (Nat × Nat × Nat)) (i : Nat) : Nat := (w.getD i (0, 0, 0)).1
def kP (w : List (Nat × Nat × Nat)) (i : Nat) : Nat := (w.getD i (0, 0, 0)).2.1
def kE (w : List (Nat × Nat × Nat)) (i : Nat) : Nat := (w.getD i (0, 0, 0)).2.2
/-- r alone counts -/
def un (op : Nat) : Bool := op = 9 || op = 16 || op = 35 || op = 22
def lnc (op a b : Nat) : Nat := if op = 9 ∨ op = 16 ∨ op = 22 then b + 1 else if op = 35 then b else if op = 17 ∨ op = 18 ∨ op = 19 then a + b + 2 else a + b + 1
/-- how many nodes the class makes -/
def tln : Tr → Nat
  | .leaf _ => 1
  | .branch n l r => lnc (n % 64) (tln l) (tln r)
theorem tln_pos : ∀ T : Tr, 1 ≤ tln T := by
  intro T
  induction T with
  | leaf k => exact Nat.le_refl _
  | branch n l r hl hr =>
    show 1 ≤ lnc (n % 64) (tln l) (tln r)
    unfold lnc
    repeat' split
    all_goals omega
/-- the first word, the word behind the last -/
def bw : Tr → Nat
  | .leaf k => k
  | .branch n l _ => if un (n % 64) then n / 64 else bw l
def ew : Tr → Nat
  | .leaf k => k + 1
  | .branch n _ r => if n % 64 = 35 ∨ n % 64 = 22 then ew r + 1 else ew r
/-- how loosely the operation holds -/
def lvo (op : Nat) : Nat := if op = 6 ∨ op = 7 ∨ op = 8 then 1 else if op = 4 ∨ op = 5 then 2 else if 10 ≤ op ∧ op ≤ 16 then 3 else if op = 17 then 4 else if op = 18 then 5 else if op = 19 then 6 else if op = 20 ∨ op = 21 then 7 else if op = 37 then 8 else 0
def lev : Tr → Nat
  | .leaf _ => 0
  | .branch n _ _ => lvo (n % 64)
/-- the greatest looseness on the left, on the right of an operation between two -/
def lL (op : Nat) : Nat := if op = 6 ∨ op = 7 ∨ op = 8 then 1 else if op = 4 ∨ op = 5 then 2 else if 10 ≤ op ∧ op ≤ 15 then 2 else if op = 17 then 4 else 5
def lR (op : Nat) : Nat := if op = 6 ∨ op = 7 ∨ op = 8 then 0 else if op = 4 ∨ op = 5 then 1 else if 10 ≤ op ∧ op ≤ 15 then 2 else if op = 17 then 3 else 4
/-- an operation between two: its kind of word -/
def opk (op : Nat) : Nat := [0, 0, 0, 0, 24, 25, 26, 27, 28, 0, 23, 18, 21, 19, 22, 20, 0, 29, 30].getD op 0
def bin (op : Nat) : Bool := decide (4 ≤ op) && decide (op ≤ 18) && op != 9 && op != 16
/-- all parts of a list bear its label -/
def fo (n0 : Nat) : Tr → Prop
  | .leaf _ => True
  | .branch n l _ => (n % 64 = 20 ∨ n % 64 = 21) → n = n0 ∧ fo n0 l
def opd (k : Nat) : Bool := k = 1 || k = 2 || k = 12 || k = 13
def wfn (w : List (Nat × Nat × Nat)) (op k el ll br er lr : Nat) : Prop :=
  if op = 9 then kK w k = 25 ∧ br = k + 1 ∧ lr = 0
  else if op = 16 then kK w k = 31 ∧ br = k + 1 ∧ lr ≤ 3
  else if op = 35 then kK w k = 36 ∧ br = k + 1 ∧ kK w er = 37 ∧ lr ≤ 6
  else if op = 22 then (kK w k = 14 ∨ kK w k = 15) ∧ kK w (k + 1) = 36 ∧ br = k + 2 ∧ kK w er = 37 ∧ lr ≤ 7
  else if op = 20 ∨ op = 21 then kK w el = 35 ∧ br = el + 1 ∧ ll ≤ 7 ∧ lr ≤ 6
  else if op = 19 then kK w k = 32 ∧ el = k ∧ br = k + 1 ∧ ll ≤ 5 ∧ lr = 8
  else if op = 37 then kK w el = 33 ∧ br = el + 1 ∧ ll ≤ 6 ∧ lr ≤ 6
  else bin op = true ∧ kK w k = opk op ∧ el = k ∧ br = k + 1 ∧ ll ≤ lL op ∧ lr ≤ lR op
/-- the tree is one of these words -/
def Wf (w : List (Nat × Nat × Nat)) : Tr → Prop
  | .leaf k => opd (kK w k) = true
  | .branch n l r => (un (n % 64) = false → Wf w l) ∧ Wf w r ∧ (n % 64 = 22 → fo (kK w (n / 64) + 6 + 64 * (n / 64)) r) ∧ wfn w (n % 64) (n / 64) (ew l) (lev l) (bw r) (ew r) (lev r)
/-- a node: operation, place, first, second, third; a truth has 1 below -/
def Nd (M : Nat → Nat → Int32) (i op pl : Nat) (a b c : Int32) : Prop := M i 0 = nI op ∧ M i 1 = nI pl ∧ M i 2 = a ∧ M i 3 = b ∧ M i 4 = c ∧ (10 ≤ op ∧ op ≤ 18 → M i 7 = 1)
/-- a jump -/
def Nj (M : Nat → Nat → Int32) (i op : Nat) (a c : Int32) : Prop := M i 0 = nI op ∧ M i 2 = a ∧ M i 4 = c
/-- how many nodes the first of two has -/
def fln : Tr → Nat
  | .leaf _ => 0
  | .branch _ x _ => tln x
/-- the class's nodes of a tree, from the a-th on -/
def Code (Lf : Nat → Nat → Prop) (M : Nat → Nat → Int32) (w : List (Nat × Nat × Nat)) : Tr → Nat → Prop
  | .leaf k, a => Lf k a
  | .branch n l r, a =>
    if n % 64 = 9 ∨ n % 64 = 16 ∨ n % 64 = 22 then Code Lf M w r a ∧ Nd M (a + tln r) (n % 64) (kP w (n / 64)) (nI (a + tln r - 1)) (-1) (-1)
    else if n % 64 = 35 then Code Lf M w r a
    else if n % 64 = 17 ∨ n % 64 = 18 then Code Lf M w l a ∧ Nj M (a + tln l) (n % 64 + 6) (nI (a + tln l - 1)) (nI (a + tln l + 1 + tln r)) ∧ Code Lf M w r (a + tln l + 1) ∧ Nd M (a + tln l + 1 + tln r) (n % 64) (kP w (n / 64)) (nI (a + tln l - 1)) (nI (a + tln l + tln r)) (-1)
    else if n % 64 = 19 then Code Lf M w l a ∧ Nj M (a + tln l) 23 (nI (a + tln l - 1)) (nI (a + tln l + 1 + fln r + 1)) ∧ Code Lf M w r (a + tln l + 1) ∧ Nd M (a + tln l + 1 + tln r) 19 (kP w (n / 64)) (nI (a + tln l - 1)) (nI (a + tln l + fln r)) (nI (a + tln l + tln r))
    else if n % 64 = 37 then Code Lf M w l a ∧ Nj M (a + tln l) 25 (-1) (nI (a + tln l + 1 + tln r)) ∧ Code Lf M w r (a + tln l + 1)
    else Code Lf M w l a ∧ Code Lf M w r (a + tln l) ∧ Nd M (a + tln l + tln r) (n % 64) (kP w (n / 64)) (nI (a + tln l - 1)) (nI (a + tln l + tln r - 1)) (-1)
theorem Nd.fr {M M' : Nat → Nat → Int32} {i op pl : Nat} {a b c : Int32} (h : Nd M i op pl a b c) (e : M' i = M i) : Nd M' i op pl a b c := by
  unfold Nd
  rw [e]
  exact h
theorem Nj.fr {M M' : Nat → Nat → Int32} {i op : Nat} {a c : Int32} (h : Nj M i op a c) (e : M' i = M i) : Nj M' i op a c := by
  unfold Nj
  rw [e]
  exact h
theorem lnc_1 {op a b : Nat} (h : op = 9 ∨ op = 16 ∨ op = 22) : lnc op a b = b + 1 := if_pos h
theorem lnc_2 {a b : Nat} : lnc 35 a b = b := rfl
theorem lnc_3 {op a b : Nat} (h : op = 17 ∨ op = 18 ∨ op = 19) : lnc op a b = a + b + 2 := by
  unfold lnc
  rw [if_neg (by omega), if_neg (by omega), if_pos h]
theorem lnc_4 {op a b : Nat} (h1 : ¬ (op = 9 ∨ op = 16 ∨ op = 22)) (h2 : ¬ op = 35) (h3 : ¬ (op = 17 ∨ op = 18 ∨ op = 19)) : lnc op a b = a + b + 1 := by
  unfold lnc
  rw [if_neg h1, if_neg h2, if_neg h3]
theorem Code.fr {Lf Lf' : Nat → Nat → Prop} {M M' : Nat → Nat → Int32} {w : List (Nat × Nat × Nat)} : ∀ (T : Tr) (a : Nat), Code Lf M w T a → (∀ i, a ≤ i → i < a + tln T → M' i = M i) → (∀ k i, a ≤ i → i < a + tln T → Lf k i → Lf' k i) → Code Lf' M' w T a := by
  intro T
  induction T with
  | leaf k =>
    intro a h _ hL
    exact hL k a (Nat.le_refl a) (Nat.lt_succ_self a) h
  | branch n l r il ir =>
    intro a h hM hL
    have e : tln (.branch n l r) = lnc (n % 64) (tln l) (tln r) := rfl
    have pl := tln_pos l
    have pr := tln_pos r
    rw [e] at hM hL
    unfold Code at h ⊢
    by_cases c1 : n % 64 = 9 ∨ n % 64 = 16 ∨ n % 64 = 22
    · rw [if_pos c1] at h ⊢
      rw [lnc_1 c1] at hM hL
      exact ⟨ir a h.1 (fun i q1 q2 => hM i q1 (by omega)) (fun k i q1 q2 => hL k i q1 (by omega)), h.2.fr (hM _ (by omega) (by omega))⟩
    rw [if_neg c1] at h ⊢
    by_cases c2 : n % 64 = 35
    · rw [if_pos c2] at h ⊢
      rw [c2, lnc_2] at hM hL
      exact ir a h hM hL
    rw [if_neg c2] at h ⊢
    by_cases c3 : n % 64 = 17 ∨ n % 64 = 18
    · rw [if_pos c3] at h ⊢
      rw [lnc_3 (by omega)] at hM hL
      obtain ⟨h1, h2, h3, h4⟩ := h
      exact ⟨il a h1 (fun i q1 q2 => hM i q1 (by omega)) (fun k i q1 q2 => hL k i q1 (by omega)), h2.fr (hM _ (by omega) (by omega)), ir _ h3 (fun i q1 q2 => hM i (by omega) (by omega)) (fun k i q1 q2 => hL k i (by omega) (by omega)), h4.fr (hM _ (by omega) (by omega))⟩
    rw [if_neg c3] at h ⊢
    by_cases c4 : n % 64 = 19
    · rw [if_pos c4] at h ⊢
      rw [lnc_3 (by omega)] at hM hL
      obtain ⟨h1, h2, h3, h4⟩ := h
      exact ⟨il a h1 (fun i q1 q2 => hM i q1 (by omega)) (fun k i q1 q2 => hL k i q1 (by omega)), h2.fr (hM _ (by omega) (by omega)), ir _ h3 (fun i q1 q2 => hM i (by omega) (by omega)) (fun k i q1 q2 => hL k i (by omega) (by omega)), h4.fr (hM _ (by omega) (by omega))⟩
    rw [if_neg c4] at h ⊢
    rw [lnc_4 c1 c2 (by omega)] at hM hL
    by_cases c5 : n % 64 = 37
    · rw [if_pos c5] at h ⊢
      obtain ⟨h1, h2, h3⟩ := h
      exact ⟨il a h1 (fun i q1 q2 => hM i q1 (by omega)) (fun k i q1 q2 => hL k i q1 (by omega)), h2.fr (hM _ (by omega) (by omega)), ir _ h3 (fun i q1 q2 => hM i (by omega) (by omega)) (fun k i q1 q2 => hL k i (by omega) (by omega))⟩
    rw [if_neg c5] at h ⊢
    obtain ⟨h1, h2, h3⟩ := h
    exact ⟨il a h1 (fun i q1 q2 => hM i q1 (by omega)) (fun k i q1 q2 => hL k i q1 (by omega)), ir _ h2 (fun i q1 q2 => hM i (by omega) (by omega)) (fun k i q1 q2 => hL k i (by omega) (by omega)), h3.fr (hM _ (by omega) (by omega))⟩
/-- an operand as the parser makes it -/
def Lf0 (l : List Int32) (w : List (Nat × Nat × Nat)) (M : Nat → Nat → Int32) (k i : Nat) : Prop := M i 7 = 1 ∧
  ((kK w k = 1 ∧ M i 0 = 1 ∧ M i 1 = nI (kP w k) ∧ M i 2 = nI (kP w k) ∧ M i 3 = nI (kE w k - kP w k)) ∨
   (kK w k = 2 ∧ M i 0 = 0 ∧ M i 5 = 1 ∧ M i 6 = nv l (l.length - kP w k) (kP w k) 0) ∨
   (kK w k = 12 ∧ M i 0 = 0 ∧ M i 5 = 2 ∧ M i 6 = 1) ∨
   (kK w k = 13 ∧ M i 0 = 0 ∧ M i 5 = 2 ∧ M i 6 = 0))
theorem Lf0.fr {l : List Int32} {w : List (Nat × Nat × Nat)} {M M' : Nat → Nat → Int32} {k i : Nat} (h : Lf0 l w M k i) (e : M' i = M i) : Lf0 l w M' k i := by
  unfold Lf0
  rw [e]
  exact h
abbrev Co (l : List Int32) (w : List (Nat × Nat × Nat)) (M : Nat → Nat → Int32) (T : Tr) (a : Nat) : Prop := Code (Lf0 l w M) M w T a
theorem Co.fr {l : List Int32} {w : List (Nat × Nat × Nat)} {M M' : Nat → Nat → Int32} {T : Tr} {a : Nat} (h : Co l w M T a) (e : ∀ i, a ≤ i → i < a + tln T → M' i = M i) : Co l w M' T a := Code.fr T a h e fun k i q1 q2 z => z.fr (e i q1 q2)
