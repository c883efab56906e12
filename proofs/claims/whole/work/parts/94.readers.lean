/-! THE READERS, purely: the class's waiting operations and the reference's stack. Kinds of words are the reference's numbers -/
/-- how strongly what waits holds its right side -/
def hol (op : Nat) : Nat :=
  if op = 19 then 1 else if op = 18 then 2 else if op = 17 then 3 else if op = 16 then 4 else if 10 ≤ op ∧ op ≤ 15 then 5 else if op = 4 ∨ op = 5 then 6 else if op = 6 ∨ op = 7 ∨ op = 8 then 7 else if op = 9 then 8 else 0
def tpo (s : List Nat) : Nat := match s with
  | [] => 0
  | a :: _ => hol a
/-- what waits is built, as long as it holds so strongly: levels, what still waits -/
def bl (h : Nat) : Nat → List Nat → Nat × List Nat
  | v, [] => (v, [])
  | v, a :: s => if h ≤ hol a then bl h (if a = 9 ∨ a = 16 ∨ a = 19 then v - 1 else v) s else (v, a :: s)
/-- a reader's state: want, role, levels, what waits (top first), is it a var's item -/
abbrev Cs : Type := Nat × Nat × Nat × List Nat × Bool
def opens (r : Nat) (b : Bool) : Cs := (14, r, if r = 7 then 1 else 0, [], b)
def cOpd (k r v : Nat) (s : List Nat) (b : Bool) : Option Cs :=
  if k = 1 ∨ k = 2 ∨ k = 12 ∨ k = 13 then some (15, r, v, s, b)
  else if k = 36 then (if v < 40 then some (14, r, v + 1, 35 :: s, b) else none)
  else if k = 25 then (if v < 40 then some (14, r, v + 1, 9 :: s, b) else none)
  else if k = 31 then (if tpo s ≤ 4 ∧ v < 40 then some (14, r, v + 1, 16 :: s, b) else none)
  else if k = 14 then some (13, r, v, 20 :: s, b)
  else if k = 15 then some (13, r, v, 21 :: s, b)
  else none
/-- the class's operation of a word between two operands -/
def opf (k : Nat) : Nat := [6, 7, 8, 17, 18].getD (k - 26) 0
def cClo (k r : Nat) (b : Bool) : Option Cs :=
  if r = 1 then (if k = 16 then some (opens 2 b) else none)
  else if r = 2 then (if k = 9 then some (opens 3 b) else if k = 34 then some (0, 0, 0, [], false) else none)
  else if r = 5 then (if k = 17 then some (opens 6 b) else none)
  else if r = 6 then (if k = 33 then some (6, 0, 0, [], b) else none)
  else if r = 7 then (if k = 37 then some (12, 0, 0, [], b) else none)
  else if k = 34 then some (0, 0, 0, [], false) else none
def cmpk (k : Nat) : Bool := decide (18 ≤ k) && decide (k ≤ 23)
/-- the class's operation of a comparison -/
def opc (k : Nat) : Nat := if k = 23 then 10 else if k = 18 then 11 else if k = 21 then 12 else if k = 19 then 13 else if k = 22 then 14 else 15
def cEnd (k r v : Nat) (b : Bool) : List Nat → Option Cs
  | [] => cClo k r b
  | a :: s => if a = 35 then (if k = 37 then some (15, r, v - 1, s, b) else none)
    else if a = 36 then (if k = 33 then some (14, r, v, 19 :: s, b) else none)
    else if a = 20 ∨ a = 21 then (if k = 35 then some (14, r, v, a :: s, b) else if k = 37 then some (15, r, v - 1, s, b) else none)
    else none
def cOpr (k r v : Nat) (s : List Nat) (b : Bool) : Option Cs :=
  if k = 26 ∨ k = 27 ∨ k = 28 then some (14, r, (bl 7 v s).1, opf k :: (bl 7 v s).2, b)
  else if k = 24 ∨ k = 25 then some (14, r, (bl 6 v s).1, (k - 20) :: (bl 6 v s).2, b)
  else if cmpk k then (if tpo (bl 6 v s).2 = 5 then none else some (14, r, (bl 6 v s).1, opc k :: (bl 6 v s).2, b))
  else if k = 29 then some (14, r, (bl 3 v s).1, 17 :: (bl 3 v s).2, b)
  else if k = 30 then some (14, r, (bl 2 v s).1, 18 :: (bl 2 v s).2, b)
  else if k = 32 then (if (bl 2 v s).2 = [] ∧ r = 6 then none else if (bl 2 v s).1 < 40 then some (14, r, (bl 2 v s).1 + 1, 36 :: (bl 2 v s).2, b) else none)
  else cEnd k r (bl 1 v s).1 b (bl 1 v s).2
/-- a word read by the class -/
def cst (k : Nat) (c : Cs) : Option Cs := match c with
  | (w, r, v, s, b) =>
    if w = 15 then cOpr k r v s b
    else if w = 14 then cOpd k r v s b
    else if w = 13 then (if k = 36 ∧ v < 40 then some (14, r, v + 1, s, b) else none)
    else if w = 0 then (if k = 3 ∨ k = 6 then some (1, 0, 0, [], false) else if k = 4 then some (1, 0, 0, [], true) else if k = 11 then some (opens 4 false) else if k = 7 ∨ k = 8 then some (opens 5 false) else none)
    else if w = 1 then (if k = 1 then some (if b then 3 else 2, 0, 0, [], b) else none)
    else if w = 2 then (if k = 23 then some (opens 0 b) else none)
    else if w = 3 then (if k = 33 then some (4, 0, 0, [], b) else none)
    else if w = 4 then (if k = 5 then some (5, 0, 0, [], b) else cOpd k 1 0 [] b)
    else if w = 5 then (if k = 9 then some (opens 3 b) else if k = 34 then some (0, 0, 0, [], false) else none)
    else if w = 6 then (if k = 10 then some (7, 0, 0, [], b) else if k = 36 then some (9, 0, 0, [], b) else none)
    else if w = 8 then (if k = 36 then some (9, 0, 0, [], b) else none)
    else if w = 9 then (if k = 1 then some (10, 0, 0, [], b) else none)
    else if w = 10 then (if k = 38 then some (11, 0, 0, [], b) else none)
    else if w = 11 then (if k = 23 then some (opens 7 b) else none)
    else if w = 12 ∧ k = 29 then some (8, 0, 0, [], b)
    else if k = 24 then some (opens 6 b) else if k = 34 then some (0, 0, 0, [], false) else none
/-- the reference: one symbol, before a word of kind k -/
def rst (k a : Nat) (s : List Nat) (v : Nat) : Option (List Nat × Nat × Bool) :=
  if a = 75 then some (s, v - 1, false)
  else if a < 50 then (if a = k then some (s, v, true) else none)
  else if a = 50 then
    if k = 0 then some (s, v, true)
    else if k = 3 ∨ k = 6 then some (51 :: 34 :: 50 :: s, v, true)
    else if k = 4 then some (1 :: 33 :: 53 :: 54 :: 34 :: 50 :: s, v, true)
    else if k = 11 then some (61 :: 34 :: 50 :: s, v, true)
    else if k = 7 ∨ k = 8 then some (61 :: 17 :: 56 :: 57 :: 34 :: 50 :: s, v, true)
    else none
  else if a = 51 then some (1 :: 23 :: 61 :: s, v, false)
  else if a = 53 then (if k = 5 then some (s, v, true) else some (61 :: 16 :: 61 :: s, v, false))
  else if a = 54 then (if k = 9 then some (61 :: s, v, true) else some (s, v, false))
  else if a = 56 then some (63 :: 33 :: 58 :: s, v, false)
  else if a = 57 then (if k = 24 then some (56 :: 57 :: s, v, true) else some (s, v, false))
  else if a = 58 then (if k = 10 then some (s, v, true) else some (59 :: 60 :: s, v, false))
  else if a = 60 then (if k = 29 then some (59 :: 60 :: s, v, true) else some (s, v, false))
  else if a < 61 then (if k = 36 ∧ v + 1 ≤ 40 then some (1 :: 38 :: 23 :: 61 :: 37 :: 75 :: s, v + 1, true) else none)
  else if a = 61 then some (63 :: 62 :: s, v, false)
  else if a = 62 then (if k = 32 then (if v + 1 ≤ 40 then some (61 :: 33 :: 61 :: 75 :: s, v + 1, true) else none) else some (s, v, false))
  else if a = 63 then some (65 :: 64 :: s, v, false)
  else if a = 64 then (if k = 30 then some (65 :: 64 :: s, v, true) else some (s, v, false))
  else if a = 65 then some (67 :: 66 :: s, v, false)
  else if a = 66 then (if k = 29 then some (67 :: 66 :: s, v, true) else some (s, v, false))
  else if a = 67 then (if k = 31 then (if v + 1 ≤ 40 then some (67 :: 75 :: s, v + 1, true) else none) else some (69 :: 68 :: s, v, false))
  else if a = 68 then (if cmpk k then some (69 :: s, v, true) else some (s, v, false))
  else if a = 69 then some (71 :: 70 :: s, v, false)
  else if a = 70 then (if k = 24 ∨ k = 25 then some (71 :: 70 :: s, v, true) else some (s, v, false))
  else if a = 71 then some (73 :: 72 :: s, v, false)
  else if a = 72 then (if k = 26 ∨ k = 27 ∨ k = 28 then some (73 :: 72 :: s, v, true) else some (s, v, false))
  else if a = 74 then (if k = 35 then some (61 :: 74 :: s, v, true) else some (s, v, false))
  else if a = 76 then (if k = 36 ∧ v + 1 ≤ 40 then some (s, v + 1, true) else none)
  else if k = 25 then (if v + 1 ≤ 40 then some (73 :: 75 :: s, v + 1, true) else none)
  else if k = 1 ∨ k = 2 ∨ k = 12 ∨ k = 13 then some (s, v, true)
  else if k = 36 then (if v + 1 ≤ 40 then some (61 :: 37 :: 75 :: s, v + 1, true) else none)
  else if k = 14 ∨ k = 15 then some (76 :: 61 :: 74 :: 37 :: 75 :: s, v, true)
  else none
/-- the reference, until a word of kind k is taken or refused -/
def rx (k : Nat) : Nat → List Nat → Nat → Option (Option (List Nat × Nat))
  | 0, _, _ => none
  | _ + 1, [], _ => some none
  | n + 1, a :: s, v => match rst k a s v with
    | none => some none
    | some (s', v', b) => if b then some (some (s', v')) else rx k n s' v'
/-! the stack that the class's state means -/
def rs (i j : Nat) : List Nat := ([72, 70, 68, 66, 64].take (j + 1)).drop i
def cc (b : List Nat) (ch : Bool) : List Nat → Nat → List Nat
  | [], i => if i = 6 then b else rs i 4 ++ (if ch then b else 62 :: b)
  | a :: s, i =>
    if a = 9 then 75 :: cc b ch s 0
    else if a = 6 ∨ a = 7 ∨ a = 8 then rs i 0 ++ cc b ch s 1
    else if a = 4 ∨ a = 5 then rs i 1 ++ cc b ch s 2
    else if 10 ≤ a ∧ a ≤ 15 then rs i 1 ++ cc b ch s 3
    else if a = 16 then rs i 2 ++ 75 :: cc b ch s 3
    else if a = 17 then rs i 3 ++ cc b ch s 4
    else if a = 18 then rs i 4 ++ cc b ch s 5
    else (if i = 6 then [] else rs i 4 ++ [62]) ++ (if a = 19 then 75 :: cc b ch s 6 else if a = 36 then 33 :: 61 :: 75 :: cc b ch s 6 else if a = 35 then 37 :: 75 :: cc b ch s 0 else 74 :: 37 :: 75 :: cc b ch s 0)
/-- the order of what waits: i the least place that may stand on top -/
def lmt (h : Nat) : Nat := if 7 ≤ h then 0 else if h = 6 then 1 else if h = 5 then 2 else if h = 4 ∨ h = 3 then 3 else if h = 2 then 4 else 9
def nxt (a : Nat) : Nat := if a = 9 then 0 else if hol a = 7 then 1 else if hol a = 6 then 2 else if hol a = 5 ∨ hol a = 4 then 3 else if hol a = 3 then 4 else if hol a = 2 ∨ hol a = 1 ∨ a = 36 then 5 else 0
def val (a : Nat) : Bool := decide (1 ≤ hol a) || a = 36 || a = 35 || a = 20 || a = 21
def okS : List Nat → Nat → Bool
  | [], _ => true
  | a :: s, i => val a && decide (i ≤ lmt (hol a)) && okS s (nxt a)
def bas (r : Nat) : List Nat := if r = 1 then [16, 61, 54, 34, 50] else if r = 2 then [54, 34, 50] else if r = 5 then [17, 56, 57, 34, 50] else if r = 6 then [33, 58, 57, 34, 50] else if r = 7 then [37, 75, 60, 57, 34, 50] else [34, 50]
/-- what is wanted of an operand, by the top of what waits -/
def wnt (r : Nat) (s : List Nat) : List Nat := match s with
  | [] => if r = 6 then [56, 57, 34, 50] else 61 :: bas r
  | a :: t => if hol a = 7 ∨ hol a = 8 then 73 :: cc (bas r) (r = 6) (a :: t) 0
    else if hol a = 6 then 71 :: cc (bas r) (r = 6) (a :: t) 1
    else if hol a = 5 then 69 :: cc (bas r) (r = 6) (a :: t) 2
    else if hol a = 4 ∨ hol a = 3 then 67 :: cc (bas r) (r = 6) (a :: t) 3
    else if hol a = 2 then 65 :: cc (bas r) (r = 6) (a :: t) 4
    else 61 :: cc (bas r) (r = 6) (a :: t) 6
/-- the reference's stack, by the class's state -/
def phi (c : Cs) : List Nat := match c with
  | (w, r, _, s, b) =>
    if w = 15 then cc (bas r) (r = 6) s 0
    else if w = 14 then wnt r s
    else if w = 13 then 76 :: 61 :: cc (bas r) (r = 6) s 6
    else if w = 0 then [50]
    else if w = 1 then (if b then [1, 33, 53, 54, 34, 50] else [51, 34, 50])
    else if w = 2 then [23, 61, 34, 50]
    else if w = 3 then [33, 53, 54, 34, 50]
    else if w = 4 then [53, 54, 34, 50]
    else if w = 5 then [54, 34, 50]
    else if w = 6 then [58, 57, 34, 50]
    else if w = 8 then [59, 60, 57, 34, 50]
    else if w = 9 then [1, 38, 23, 61, 37, 75, 60, 57, 34, 50]
    else if w = 10 then [38, 23, 61, 37, 75, 60, 57, 34, 50]
    else if w = 11 then [23, 61, 37, 75, 60, 57, 34, 50]
    else if w = 12 then [75, 60, 57, 34, 50]
    else [57, 34, 50]
/-- the reference's levels -/
def lam (c : Cs) : Nat := match c with
  | (w, _, v, _, _) => if w = 15 ∨ w = 14 ∨ w = 13 then v else if w = 9 ∨ w = 10 ∨ w = 11 ∨ w = 12 then 1 else 0
/-- how many of what waits bear a level -/
def lb : List Nat → Nat
  | [] => 0
  | a :: s => (if a = 9 ∨ a = 16 ∨ a = 19 ∨ a = 36 ∨ a = 35 ∨ a = 20 ∨ a = 21 then 1 else 0) + lb s
def hdl (s : List Nat) : Bool := match s with
  | a :: _ => a = 20 || a = 21
  | [] => false
/-- what holds of the class's state -/
def okC (c : Cs) : Bool := match c with
  | (w, r, v, s, _) =>
    if w = 15 ∨ w = 14 then okS s 0 && decide (v = lb s + (if r = 7 then 1 else 0)) && decide (v ≤ 40) && decide (r < 8)
    else if w = 13 then okS s 0 && decide (v + 1 = lb s + (if r = 7 then 1 else 0)) && decide (v ≤ 40) && decide (r < 8) && hdl s
    else decide (w < 13) && decide (r = 0) && decide (v = 0) && decide (s = [])
/-- what the class did, what the reference did -/
def rel (o1 : Option Cs) (o2 : Option (List Nat × Nat)) : Bool := match o1, o2 with
  | none, none => true
  | some c, some p => okC c && (decide (p = (phi c, lam c)) || decide (p = (75 :: phi c, lam c + 1)))
  | _, _ => false
/-! going without taking a word: B steps at most -/
def Go (k B : Nat) (p q : List Nat × Nat) : Prop := ∃ m, m ≤ B ∧ ∀ n, rx k (n + m) p.1 p.2 = rx k n q.1 q.2
theorem Go.rf {k B : Nat} (p : List Nat × Nat) : Go k B p p := ⟨0, Nat.zero_le _, fun _ => rfl⟩
theorem Go.t {k B C : Nat} {p q r : List Nat × Nat} (a : Go k B p q) (b : Go k C q r) : Go k (B + C) p r := by
  obtain ⟨m, h, a⟩ := a
  obtain ⟨m', h', b⟩ := b
  exact ⟨m' + m, by omega, fun n => by rw [← Nat.add_assoc, a, b]⟩
theorem Go.mo {k B C : Nat} {p q : List Nat × Nat} (a : Go k B p q) (h : B ≤ C) : Go k C p q := by
  obtain ⟨m, h', a⟩ := a
  exact ⟨m, by omega, a⟩
theorem Go.tr {k B C D : Nat} {p q r : List Nat × Nat} (a : Go k B p q) (b : Go k C q r) (h : B + C ≤ D := by omega) : Go k D p r := (a.t b).mo h
theorem Go.st {k a v v' : Nat} {s s' : List Nat} (h : rst k a s v = some (s', v', false)) : Go k 1 (a :: s, v) (s', v') := by
  refine ⟨1, Nat.le_refl _, fun n => ?_⟩
  show (match rst k a s v with
    | none => some none
    | some (s', v', b) => if b then some (some (s', v')) else rx k n s' v') = rx k n s' v'
  rw [h]
  rfl
/-- a word is taken, or refused -/
def Ends (k B : Nat) (p : List Nat × Nat) (o : Option (List Nat × Nat)) : Prop := ∃ n, n ≤ B ∧ rx k n p.1 p.2 = some o
theorem Ends.go {k B C D : Nat} {p q : List Nat × Nat} {o : Option (List Nat × Nat)} (b : Ends k C q o) (a : Go k B p q) (h : C + B ≤ D := by omega) : Ends k D p o := by
  obtain ⟨m, h1, a⟩ := a
  obtain ⟨n, h2, b⟩ := b
  exact ⟨n + m, by omega, by rw [a, b]⟩
theorem Ends.mo {k B C : Nat} {p : List Nat × Nat} {o : Option (List Nat × Nat)} (b : Ends k B p o) (h : B ≤ C) : Ends k C p o := by
  obtain ⟨n, h2, b⟩ := b
  exact ⟨n, by omega, b⟩
theorem Ends.tk {k a v v' : Nat} {s s' : List Nat} (h : rst k a s v = some (s', v', true)) : Ends k 1 (a :: s, v) (some (s', v')) := by
  refine ⟨1, Nat.le_refl _, ?_⟩
  show (match rst k a s v with
    | none => some none
    | some (s', v', b) => if b then some (some (s', v')) else rx k 0 s' v') = _
  rw [h]
  rfl
theorem Ends.no {k a v : Nat} {s : List Nat} (h : rst k a s v = none) : Ends k 1 (a :: s, v) none := by
  refine ⟨1, Nat.le_refl _, ?_⟩
  show (match rst k a s v with
    | none => some none
    | some (s', v', b) => if b then some (some (s', v')) else rx k 0 s' v') = _
  rw [h]
section CC
variable {b : List Nat} {ch : Bool} {s : List Nat}
theorem cc_0 (h : tpo s ≤ 7) : cc b ch s 0 = 72 :: cc b ch s 1 := by
  cases s with
  | nil => rfl
  | cons a t =>
    have h : hol a ≤ 7 := h
    have h9 : ¬ a = 9 := fun e => by subst e; exact absurd h (by decide)
    unfold cc
    rw [if_neg h9, if_neg h9]
    repeat' split
    all_goals first | rfl | omega
theorem cc_1 (h : tpo s ≤ 6) : cc b ch s 1 = 70 :: cc b ch s 2 := by
  cases s with
  | nil => rfl
  | cons a t =>
    have h : hol a ≤ 6 := h
    have h9 : ¬ a = 9 := fun e => by subst e; exact absurd h (by decide)
    have h7 : ¬ (a = 6 ∨ a = 7 ∨ a = 8) := fun e => by rcases e with e | e | e <;> subst e <;> exact absurd h (by decide)
    unfold cc
    rw [if_neg h9, if_neg h9, if_neg h7, if_neg h7]
    repeat' split
    all_goals first | rfl | omega
theorem hol_c {a : Nat} (h : 10 ≤ a ∧ a ≤ 15) : hol a = 5 := by
  have : a = 10 ∨ a = 11 ∨ a = 12 ∨ a = 13 ∨ a = 14 ∨ a = 15 := by omega
  rcases this with e | e | e | e | e | e <;> subst e <;> rfl
theorem cc_2 (h : tpo s ≤ 4) : cc b ch s 2 = 68 :: cc b ch s 3 := by
  cases s with
  | nil => rfl
  | cons a t =>
    have h : hol a ≤ 4 := h
    have h9 : ¬ a = 9 := fun e => by subst e; exact absurd h (by decide)
    have h7 : ¬ (a = 6 ∨ a = 7 ∨ a = 8) := fun e => by rcases e with e | e | e <;> subst e <;> exact absurd h (by decide)
    have h6 : ¬ (a = 4 ∨ a = 5) := fun e => by rcases e with e | e <;> subst e <;> exact absurd h (by decide)
    have h5 : ¬ (10 ≤ a ∧ a ≤ 15) := fun e => by rw [hol_c e] at h; omega
    unfold cc
    rw [if_neg h9, if_neg h9, if_neg h7, if_neg h7, if_neg h6, if_neg h6, if_neg h5, if_neg h5]
    repeat' split
    all_goals first | rfl | omega
theorem cc_3 (h : tpo s ≤ 3) : cc b ch s 3 = 66 :: cc b ch s 4 := by
  cases s with
  | nil => rfl
  | cons a t =>
    have h : hol a ≤ 3 := h
    have h9 : ¬ a = 9 := fun e => by subst e; exact absurd h (by decide)
    have h7 : ¬ (a = 6 ∨ a = 7 ∨ a = 8) := fun e => by rcases e with e | e | e <;> subst e <;> exact absurd h (by decide)
    have h6 : ¬ (a = 4 ∨ a = 5) := fun e => by rcases e with e | e <;> subst e <;> exact absurd h (by decide)
    have h5 : ¬ (10 ≤ a ∧ a ≤ 15) := fun e => by rw [hol_c e] at h; omega
    have h4 : ¬ a = 16 := fun e => by subst e; exact absurd h (by decide)
    unfold cc
    rw [if_neg h9, if_neg h9, if_neg h7, if_neg h7, if_neg h6, if_neg h6, if_neg h5, if_neg h5, if_neg h4, if_neg h4]
    repeat' split
    all_goals first | rfl | omega
theorem cc_4 (h : tpo s ≤ 2) : cc b ch s 4 = 64 :: cc b ch s 5 := by
  cases s with
  | nil => rfl
  | cons a t =>
    have h : hol a ≤ 2 := h
    have h9 : ¬ a = 9 := fun e => by subst e; exact absurd h (by decide)
    have h7 : ¬ (a = 6 ∨ a = 7 ∨ a = 8) := fun e => by rcases e with e | e | e <;> subst e <;> exact absurd h (by decide)
    have h6 : ¬ (a = 4 ∨ a = 5) := fun e => by rcases e with e | e <;> subst e <;> exact absurd h (by decide)
    have h5 : ¬ (10 ≤ a ∧ a ≤ 15) := fun e => by rw [hol_c e] at h; omega
    have h4 : ¬ a = 16 := fun e => by subst e; exact absurd h (by decide)
    have h3 : ¬ a = 17 := fun e => by subst e; exact absurd h (by decide)
    unfold cc
    rw [if_neg h9, if_neg h9, if_neg h7, if_neg h7, if_neg h6, if_neg h6, if_neg h5, if_neg h5, if_neg h4, if_neg h4, if_neg h3, if_neg h3]
    repeat' split
    all_goals first | rfl | omega
theorem cc_5 (h : tpo s ≤ 1) (hc : ch = false ∨ s ≠ []) : cc b ch s 5 = 62 :: cc b ch s 6 := by
  cases s with
  | nil =>
    rcases hc with e | e
    · subst e; rfl
    · exact absurd rfl e
  | cons a t =>
    have h : hol a ≤ 1 := h
    have h9 : ¬ a = 9 := fun e => by subst e; exact absurd h (by decide)
    have h7 : ¬ (a = 6 ∨ a = 7 ∨ a = 8) := fun e => by rcases e with e | e | e <;> subst e <;> exact absurd h (by decide)
    have h6 : ¬ (a = 4 ∨ a = 5) := fun e => by rcases e with e | e <;> subst e <;> exact absurd h (by decide)
    have h5 : ¬ (10 ≤ a ∧ a ≤ 15) := fun e => by rw [hol_c e] at h; omega
    have h4 : ¬ a = 16 := fun e => by subst e; exact absurd h (by decide)
    have h3 : ¬ a = 17 := fun e => by subst e; exact absurd h (by decide)
    have h2 : ¬ a = 18 := fun e => by subst e; exact absurd h (by decide)
    unfold cc
    rw [if_neg h9, if_neg h9, if_neg h7, if_neg h7, if_neg h6, if_neg h6, if_neg h5, if_neg h5, if_neg h4, if_neg h4, if_neg h3, if_neg h3, if_neg h2, if_neg h2]
    repeat' split
    all_goals first | rfl | omega
end CC
/-- building with less strength goes on where the stronger stopped -/
theorem bl_bl {h h' : Nat} (hh : h' ≤ h) : ∀ (s : List Nat) (v : Nat), bl h' v s = bl h' (bl h v s).1 (bl h v s).2 := by
  intro s
  induction s with
  | nil => intro v; rfl
  | cons a s ih =>
    intro v
    by_cases c : h ≤ hol a
    · have e1 : bl h v (a :: s) = bl h (if a = 9 ∨ a = 16 ∨ a = 19 then v - 1 else v) s := if_pos c
      have e2 : bl h' v (a :: s) = bl h' (if a = 9 ∨ a = 16 ∨ a = 19 then v - 1 else v) s := if_pos (by omega)
      rw [e1, e2]
      exact ih _
    · have e1 : bl h v (a :: s) = (v, a :: s) := if_neg c
      rw [e1]
theorem bl_top {h : Nat} : ∀ (s : List Nat) (v : Nat), tpo (bl h v s).2 < h ∨ (bl h v s).2 = [] := by
  intro s
  induction s with
  | nil => intro v; exact Or.inr rfl
  | cons a s ih =>
    intro v
    by_cases c : h ≤ hol a
    · have e1 : bl h v (a :: s) = bl h (if a = 9 ∨ a = 16 ∨ a = 19 then v - 1 else v) s := if_pos c
      rw [e1]
      exact ih _
    · have e1 : bl h v (a :: s) = (v, a :: s) := if_neg c
      rw [e1]
      exact Or.inl (by show hol a < h; omega)
theorem bl_tp {h : Nat} (h1 : 1 ≤ h) (s : List Nat) (v : Nat) : tpo (bl h v s).2 ≤ h - 1 := by
  rcases bl_top (h := h) s v with e | e
  · omega
  · rw [e]; exact Nat.zero_le _
theorem bl_id {h v : Nat} {s : List Nat} (hs : tpo s < h) : bl h v s = (v, s) := by
  cases s with
  | nil => rfl
  | cons a s => exact if_neg (by have : hol a < h := hs; omega)
theorem hol_8 {a : Nat} (h : 8 ≤ hol a) : a = 9 := by
  unfold hol at h
  repeat' split at h
  all_goals omega
theorem hol_7 {a : Nat} (h : hol a = 7) : a = 6 ∨ a = 7 ∨ a = 8 := by
  unfold hol at h
  repeat' split at h
  all_goals omega
theorem hol_6 {a : Nat} (h : hol a = 6) : a = 4 ∨ a = 5 := by
  unfold hol at h
  repeat' split at h
  all_goals omega
theorem hol_5 {a : Nat} (h : hol a = 5) : 10 ≤ a ∧ a ≤ 15 := by
  unfold hol at h
  repeat' split at h
  all_goals omega
theorem hol_4 {a : Nat} (h : hol a = 4) : a = 16 := by
  unfold hol at h
  repeat' split at h
  all_goals omega
theorem hol_3 {a : Nat} (h : hol a = 3) : a = 17 := by
  unfold hol at h
  repeat' split at h
  all_goals omega
theorem hol_2 {a : Nat} (h : hol a = 2) : a = 18 := by
  unfold hol at h
  repeat' split at h
  all_goals omega
theorem hol_1 {a : Nat} (h : hol a = 1) : a = 19 := by
  unfold hol at h
  repeat' split at h
  all_goals omega
theorem hol_le (a : Nat) : hol a ≤ 8 := by
  unfold hol
  repeat' split
  all_goals omega
theorem okS_c {a i : Nat} {s : List Nat} (h : okS (a :: s) i = true) : val a = true ∧ i ≤ lmt (hol a) ∧ okS s (nxt a) = true := by
  have h : (val a && decide (i ≤ lmt (hol a)) && okS s (nxt a)) = true := h
  obtain ⟨h1, h2⟩ := Bool.and_eq_true_iff.mp h
  obtain ⟨h3, h4⟩ := Bool.and_eq_true_iff.mp h1
  exact ⟨h3, of_decide_eq_true h4, h2⟩
theorem okS_i {a i : Nat} {s : List Nat} (h1 : val a = true) (h2 : i ≤ lmt (hol a)) (h3 : okS s (nxt a) = true) : okS (a :: s) i = true := by
  show (val a && decide (i ≤ lmt (hol a)) && okS s (nxt a)) = true
  rw [h1, h3, decide_eq_true h2]
  rfl
theorem okS_up {i j : Nat} {s : List Nat} (h : okS s i = true) (hj : s = [] ∨ j ≤ lmt (tpo s)) : okS s j = true := by
  cases s with
  | nil => rfl
  | cons a t =>
    obtain ⟨h1, h2, h3⟩ := okS_c h
    rcases hj with e | e
    · cases e
    · exact okS_i h1 e h3
theorem lmt_6 {h : Nat} (q : h ≤ 6) : 1 ≤ lmt h := by
  unfold lmt
  repeat' split
  all_goals omega
theorem lmt_5 {h : Nat} (q : h ≤ 5) : 2 ≤ lmt h := by
  unfold lmt
  repeat' split
  all_goals omega
theorem lmt_4 {h : Nat} (q : h ≤ 4) : 3 ≤ lmt h := by
  unfold lmt
  repeat' split
  all_goals omega
theorem lmt_2 {h : Nat} (q : h ≤ 2) : 4 ≤ lmt h := by
  unfold lmt
  repeat' split
  all_goals omega
theorem lmt_1 {h : Nat} (q : h ≤ 1) : lmt h = 9 := by
  unfold lmt
  repeat' split
  all_goals omega
theorem lmt_i1 {h : Nat} (q : 1 ≤ lmt h) : h ≤ 6 := by
  unfold lmt at q
  repeat' split at q
  all_goals omega
theorem lmt_i2 {h : Nat} (q : 2 ≤ lmt h) : h ≤ 5 := by
  unfold lmt at q
  repeat' split at q
  all_goals omega
theorem lmt_i3 {h : Nat} (q : 3 ≤ lmt h) : h ≤ 4 := by
  unfold lmt at q
  repeat' split at q
  all_goals omega
theorem lmt_i4 {h : Nat} (q : 4 ≤ lmt h) : h ≤ 2 := by
  unfold lmt at q
  repeat' split at q
  all_goals omega
theorem lmt_i5 {h : Nat} (q : 5 ≤ lmt h) : h ≤ 1 := by
  unfold lmt at q
  repeat' split at q
  all_goals omega
theorem okS_t {i : Nat} {s : List Nat} (h : okS s i = true) : s = [] ∨ i ≤ lmt (tpo s) := by
  cases s with
  | nil => exact Or.inl rfl
  | cons a t => exact Or.inr (okS_c h).2.1
theorem tpo_le {i n : Nat} {s : List Nat} (h : okS s i = true) (q : ∀ h, i ≤ lmt h → h ≤ n) : tpo s ≤ n := by
  rcases okS_t h with e | e
  · rw [e]; exact Nat.zero_le _
  · exact q _ e
section PS
variable {b : List Nat} {ch : Bool} {k : Nat}
theorem ps_8 : ∀ (s : List Nat) (v : Nat), okS s 0 = true → Go k s.length (cc b ch s 0, v) (cc b ch (bl 8 v s).2 0, (bl 8 v s).1) ∧ okS (bl 8 v s).2 0 = true := by
  intro s
  induction s with
  | nil => intro v h; exact ⟨Go.rf _, h⟩
  | cons a s ih =>
    intro v h
    by_cases c : 8 ≤ hol a
    · have e := hol_8 c
      subst e
      have e1 : bl 8 v (9 :: s) = bl 8 (v - 1) s := rfl
      have e2 : cc b ch (9 :: s) 0 = 75 :: cc b ch s 0 := rfl
      obtain ⟨h1, h2, h3⟩ := okS_c h
      obtain ⟨g1, g2⟩ := ih (v - 1) h3
      rw [e1, e2]
      exact ⟨(Go.st rfl).tr g1 (by show 1 + s.length ≤ s.length + 1; omega), g2⟩
    · have e1 : bl 8 v (a :: s) = (v, a :: s) := if_neg c
      rw [e1]
      exact ⟨Go.rf _, h⟩
theorem ps_7 {s : List Nat} {v : Nat} (h : okS s 0 = true) (ht : tpo s ≤ 7) : cc b ch s 1 = cc b ch (bl 7 v s).2 1 ∧ (bl 7 v s).1 = v ∧ okS (bl 7 v s).2 1 = true := by
  cases s with
  | nil => exact ⟨rfl, rfl, rfl⟩
  | cons a t =>
    have ht : hol a ≤ 7 := ht
    by_cases c : hol a = 7
    · obtain ⟨h1, h2, h3⟩ := okS_c h
      have n1 : nxt a = 1 := by unfold nxt; rw [if_neg (fun e => by subst e; exact absurd c (by decide)), if_pos c]
      rw [n1] at h3
      have ht1 : tpo t ≤ 6 := tpo_le h3 fun _ q => lmt_i1 q
      have e1 : bl 7 v (a :: t) = (v, t) := by
        show (if 7 ≤ hol a then bl 7 (if a = 9 ∨ a = 16 ∨ a = 19 then v - 1 else v) t else (v, a :: t)) = _
        rw [if_pos (by omega), if_neg (by rcases hol_7 c with e | e | e <;> omega), bl_id (by omega)]
      have e2 : cc b ch (a :: t) 1 = cc b ch t 1 := by
        rcases hol_7 c with e | e | e <;> subst e <;> rfl
      rw [e1]
      exact ⟨e2, rfl, h3⟩
    · have e1 : bl 7 v (a :: t) = (v, a :: t) := bl_id (by show hol a < 7; omega)
      rw [e1]
      exact ⟨rfl, rfl, okS_up h (Or.inr (lmt_6 (by show hol a ≤ 6; omega)))⟩
theorem ps_6 {s : List Nat} {v : Nat} (h : okS s 1 = true) : cc b ch s 2 = cc b ch (bl 6 v s).2 2 ∧ (bl 6 v s).1 = v ∧ okS (bl 6 v s).2 2 = true := by
  have ht := tpo_le h fun _ q => lmt_i1 q
  cases s with
  | nil => exact ⟨rfl, rfl, rfl⟩
  | cons a t =>
    have ht : hol a ≤ 6 := ht
    by_cases c : hol a = 6
    · obtain ⟨h1, h2, h3⟩ := okS_c h
      have n1 : nxt a = 2 := by rcases hol_6 c with e | e <;> subst e <;> rfl
      rw [n1] at h3
      have ht1 : tpo t ≤ 5 := tpo_le h3 fun _ q => lmt_i2 q
      have e1 : bl 6 v (a :: t) = (v, t) := by
        show (if 6 ≤ hol a then bl 6 (if a = 9 ∨ a = 16 ∨ a = 19 then v - 1 else v) t else (v, a :: t)) = _
        rw [if_pos (by omega), if_neg (by rcases hol_6 c with e | e <;> omega), bl_id (by omega)]
      have e2 : cc b ch (a :: t) 2 = cc b ch t 2 := by
        rcases hol_6 c with e | e <;> subst e <;> rfl
      rw [e1]
      exact ⟨e2, rfl, h3⟩
    · have e1 : bl 6 v (a :: t) = (v, a :: t) := bl_id (by show hol a < 6; omega)
      rw [e1]
      exact ⟨rfl, rfl, okS_up h (Or.inr (lmt_5 (by show hol a ≤ 5; omega)))⟩
theorem ps_5 {s : List Nat} {v : Nat} (h : okS s 2 = true) : (cc b ch s 2 = (if tpo s = 5 then cc b ch (bl 5 v s).2 3 else 68 :: cc b ch (bl 5 v s).2 3)) ∧ (bl 5 v s).1 = v ∧ okS (bl 5 v s).2 3 = true := by
  have ht := tpo_le h fun _ q => lmt_i2 q
  cases s with
  | nil => exact ⟨rfl, rfl, rfl⟩
  | cons a t =>
    have ht : hol a ≤ 5 := ht
    by_cases c : hol a = 5
    · obtain ⟨h1, h2, h3⟩ := okS_c h
      have q := hol_5 c
      have n1 : nxt a = 3 := by unfold nxt; rw [if_neg (by omega), if_neg (by omega), if_neg (by omega), if_pos (by omega)]
      rw [n1] at h3
      have ht1 : tpo t ≤ 4 := tpo_le h3 fun _ q => lmt_i3 q
      have e1 : bl 5 v (a :: t) = (v, t) := by
        show (if 5 ≤ hol a then bl 5 (if a = 9 ∨ a = 16 ∨ a = 19 then v - 1 else v) t else (v, a :: t)) = _
        rw [if_pos (by omega), if_neg (by omega), bl_id (by omega)]
      have e2 : cc b ch (a :: t) 2 = cc b ch t 3 := by
        conv => lhs; unfold cc
        rw [if_neg (by omega), if_neg (by omega), if_neg (by omega), if_pos q]
        rfl
      rw [e1, if_pos (show tpo (a :: t) = 5 from c)]
      exact ⟨e2, rfl, h3⟩
    · have e1 : bl 5 v (a :: t) = (v, a :: t) := bl_id (by show hol a < 5; omega)
      rw [e1, if_neg (show ¬ tpo (a :: t) = 5 from c)]
      exact ⟨cc_2 (by show hol a ≤ 4; omega), rfl, okS_up h (Or.inr (lmt_4 (by show hol a ≤ 4; omega)))⟩
theorem ps_4 : ∀ (s : List Nat) (v : Nat), okS s 3 = true → Go k s.length (cc b ch s 3, v) (cc b ch (bl 4 v s).2 3, (bl 4 v s).1) ∧ okS (bl 4 v s).2 3 = true ∧ tpo (bl 4 v s).2 ≤ 3 := by
  intro s
  induction s with
  | nil => intro v h; exact ⟨Go.rf _, h, Nat.zero_le _⟩
  | cons a s ih =>
    intro v h
    have ht : hol a ≤ 4 := tpo_le h fun _ q => lmt_i3 q
    by_cases c : hol a = 4
    · have e := hol_4 c
      subst e
      have e1 : bl 4 v (16 :: s) = bl 4 (v - 1) s := rfl
      have e2 : cc b ch (16 :: s) 3 = 75 :: cc b ch s 3 := rfl
      obtain ⟨h1, h2, h3⟩ := okS_c h
      obtain ⟨g1, g2⟩ := ih (v - 1) h3
      rw [e1, e2]
      exact ⟨(Go.st rfl).tr g1 (by show 1 + s.length ≤ s.length + 1; omega), g2⟩
    · have e1 : bl 4 v (a :: s) = (v, a :: s) := if_neg (by omega)
      rw [e1]
      exact ⟨Go.rf _, h, by show hol a ≤ 3; omega⟩
theorem ps_3 {s : List Nat} {v : Nat} (h : okS s 3 = true) (ht : tpo s ≤ 3) : cc b ch s 4 = cc b ch (bl 3 v s).2 4 ∧ (bl 3 v s).1 = v ∧ okS (bl 3 v s).2 4 = true := by
  cases s with
  | nil => exact ⟨rfl, rfl, rfl⟩
  | cons a t =>
    have ht : hol a ≤ 3 := ht
    by_cases c : hol a = 3
    · have e := hol_3 c
      subst e
      obtain ⟨h1, h2, h3⟩ := okS_c h
      have ht1 : tpo t ≤ 2 := tpo_le h3 fun _ q => lmt_i4 q
      have e1 : bl 3 v (17 :: t) = (v, t) := by
        show bl 3 v t = _
        exact bl_id (by omega)
      rw [e1]
      exact ⟨rfl, rfl, h3⟩
    · have e1 : bl 3 v (a :: t) = (v, a :: t) := bl_id (by show hol a < 3; omega)
      rw [e1]
      exact ⟨rfl, rfl, okS_up h (Or.inr (lmt_2 (by show hol a ≤ 2; omega)))⟩
theorem ps_2 {s : List Nat} {v : Nat} (h : okS s 4 = true) : cc b ch s 5 = cc b ch (bl 2 v s).2 5 ∧ (bl 2 v s).1 = v ∧ okS (bl 2 v s).2 5 = true := by
  have ht := tpo_le h fun _ q => lmt_i4 q
  cases s with
  | nil => exact ⟨rfl, rfl, rfl⟩
  | cons a t =>
    have ht : hol a ≤ 2 := ht
    by_cases c : hol a = 2
    · have e := hol_2 c
      subst e
      obtain ⟨h1, h2, h3⟩ := okS_c h
      have ht1 : tpo t ≤ 1 := tpo_le h3 fun _ q => lmt_i5 q
      have e1 : bl 2 v (18 :: t) = (v, t) := by
        show bl 2 v t = _
        exact bl_id (by omega)
      rw [e1]
      exact ⟨rfl, rfl, h3⟩
    · have e1 : bl 2 v (a :: t) = (v, a :: t) := bl_id (by show hol a < 2; omega)
      rw [e1]
      exact ⟨rfl, rfl, okS_up h (Or.inr (by rw [show tpo (a :: t) = hol a from rfl, lmt_1 (by omega)]; decide))⟩
theorem ps_1 : ∀ (s : List Nat) (v : Nat), okS s 5 = true → Go k s.length (cc b ch s 6, v) (cc b ch (bl 1 v s).2 6, (bl 1 v s).1) ∧ okS (bl 1 v s).2 5 = true ∧ tpo (bl 1 v s).2 = 0 := by
  intro s
  induction s with
  | nil => intro v h; exact ⟨Go.rf _, h, rfl⟩
  | cons a s ih =>
    intro v h
    have ht : hol a ≤ 1 := tpo_le h fun _ q => lmt_i5 q
    by_cases c : hol a = 1
    · have e := hol_1 c
      subst e
      have e1 : bl 1 v (19 :: s) = bl 1 (v - 1) s := rfl
      have e2 : cc b ch (19 :: s) 6 = 75 :: cc b ch s 6 := rfl
      obtain ⟨h1, h2, h3⟩ := okS_c h
      obtain ⟨g1, g2⟩ := ih (v - 1) h3
      rw [e1, e2]
      exact ⟨(Go.st rfl).tr g1 (by show 1 + s.length ≤ s.length + 1; omega), g2⟩
    · have e1 : bl 1 v (a :: s) = (v, a :: s) := if_neg (by omega)
      rw [e1]
      exact ⟨Go.rf _, h, by show hol a = 0; omega⟩
end PS
theorem bl_len {h : Nat} : ∀ (s : List Nat) (v : Nat), (bl h v s).2.length ≤ s.length := by
  intro s
  induction s with
  | nil => intro v; exact Nat.le_refl _
  | cons a s ih =>
    intro v
    by_cases q : h ≤ hol a
    · have e1 : bl h v (a :: s) = bl h (if a = 9 ∨ a = 16 ∨ a = 19 then v - 1 else v) s := if_pos q
      rw [e1]
      exact Nat.le_succ_of_le (ih _)
    · have e1 : bl h v (a :: s) = (v, a :: s) := if_neg q
      rw [e1]
      exact Nat.le_refl _
