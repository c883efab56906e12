/-! WHAT A TEXT MEANS: names, kinds, values; faults are (fault, place) -/
/-- a name: its word, sort (1 const, 2 formula, 3 var), is it a truth, its tree, a const's value, a var's first, last and begin, its number in the class and in the reference -/
abbrev En : Type := Nat × Nat × Bool × Tr × (Int64 × Int64) × (Int32 × Int32 × Int32) × Nat × Nat
def eN : En := (0, 0, false, .leaf 0, (0, 0), (0, 0, 0), 0, 0)
abbrev Rs (α : Type) : Type := (Nat × Nat) ⊕ α
def sbd {α β : Type} (x : Rs α) (f : α → Rs β) : Rs β := match x with
  | .inl e => .inl e
  | .inr a => f a
theorem sbd_r {α β : Type} (a : α) (f : α → Rs β) : sbd (.inr a) f = f a := rfl
theorem sbd_l {α β : Type} (e : Nat × Nat) (f : α → Rs β) : sbd (.inl e) f = .inl e := rfl
/-- two words are the same -/
def swd (l : List Int32) (w : List (Nat × Nat × Nat)) (a b : Nat) : Bool := decide (kE w a - kP w a = kE w b - kP w b) && (List.range (kE w a - kP w a)).all fun j => decide (ch l (kP w a + j) = ch l (kP w b + j))
def fnd (l : List Int32) (w : List (Nat × Nat × Nat)) (E : List En) (k : Nat) : Option Nat := E.findIdx? fun e => swd l w e.1 k
/-- the kind of a name: 1 a number, 2 a truth -/
def chn (l : List Int32) (w : List (Nat × Nat × Nat)) (E : List En) (co : Bool) (k : Nat) : Rs Nat := match fnd l w E k with
  | none => .inl (2, kP w k)
  | some j => if co = true ∧ (E.getD j eN).2.1 ≠ 1 then .inl (2, kP w k) else .inr (if (E.getD j eN).2.2.1 then 2 else 1)
def kr (pl op a b : Nat) : Rs Nat :=
  if op = 10 ∨ op = 11 then (if a = b then .inr 2 else .inl (3, pl))
  else if op = 17 ∨ op = 18 then (if a = 2 ∧ b = 2 then .inr 2 else .inl (3, pl))
  else if op = 19 then (if a = 2 ∧ b ≠ 0 then .inr b else .inl (3, pl))
  else if op = 37 then .inr (if a = b then a else 0)
  else if op = 20 ∨ op = 21 then .inr (if a = 1 ∧ b = 1 then 1 else 0)
  else if 12 ≤ op ∧ op ≤ 15 then (if a = 1 ∧ b = 1 then .inr 2 else .inl (3, pl))
  else (if a = 1 ∧ b = 1 then .inr 1 else .inl (3, pl))
def ku (pl op a : Nat) : Rs Nat :=
  if op = 35 then .inr a
  else if op = 16 then (if a = 2 then .inr 2 else .inl (3, pl))
  else (if a = 1 then .inr 1 else .inl (3, pl))
/-- the kind of a rule, or its fault -/
def chk (l : List Int32) (w : List (Nat × Nat × Nat)) (E : List En) (co : Bool) : Tr → Rs Nat
  | .leaf k => if kK w k = 2 then .inr 1 else if kK w k = 1 then chn l w E co k else .inr 2
  | .branch n l' r => if un (n % 64) then sbd (chk l w E co r) fun a => ku (kP w (n / 64)) (n % 64) a
    else sbd (chk l w E co l') fun a => sbd (chk l w E co r) fun b => kr (kP w (n / 64)) (n % 64) a b
/-! numbers -/
def eu : Nat → Int64 → Int64 → Int64
  | 0, x, _ => x
  | f + 1, x, y => if y = 0 then x else eu f y (x - x / y * y)
def dv (x y : Int64) : Int64 := if eu 256 (if 0 ≤ x then x else -x) (if 0 ≤ y then y else -y) ≤ 0 then 1 else eu 256 (if 0 ≤ x then x else -x) (if 0 ≤ y then y else -y)
def fra (x y : Int64) : Nat ⊕ (Int64 × Int64) := if 1000000000 ≤ x / dv x y ∨ x / dv x y ≤ -1000000000 ∨ 1000000000 ≤ y / dv x y then .inl 6 else .inr (x / dv x y, y / dv x y)
def md (a c : Int64) : Int64 := if a - a / c * c < 0 then a - a / c * c + c else a - a / c * c
def rk (op : Nat) (a b c d : Int64) : Nat ⊕ (Int64 × Int64) :=
  if op = 4 then fra (a * d + c * b) (b * d)
  else if op = 5 then fra (a * d - c * b) (b * d)
  else if op = 6 then fra (a * c) (b * d)
  else if op = 7 then (if c = 0 then .inl 7 else if c < 0 then fra (-a * d) (-b * c) else fra (a * d) (b * c))
  else if b ≠ 1 ∨ d ≠ 1 then .inl 8 else if c ≤ 0 then .inl 7 else .inr (md a c, 1)
def nb (b : Int64) : Int64 := if b = 0 then 1 else b
def cmpo (op : Nat) (x y : Int64) : Bool := if op = 10 then decide (x = y) else if op = 11 then decide (x ≠ y) else if op = 12 then decide (x < y) else if op = 13 then decide (x ≤ y) else if op = 14 then decide (y < x) else decide (y ≤ x)
def tv (b : Bool) : Int64 × Int64 := (if b then 1 else 0, 0)
def vr (pl op : Nat) (u v : Int64 × Int64) : Rs (Int64 × Int64) :=
  if 10 ≤ op ∧ op ≤ 15 then .inr (tv (cmpo op (u.1 * nb v.2) (v.1 * nb u.2)))
  else if op = 20 then .inr (if v.1 * u.2 < u.1 * v.2 then v else u)
  else if op = 21 then .inr (if u.1 * v.2 < v.1 * u.2 then v else u)
  else match rk op u.1 u.2 v.1 v.2 with
    | .inl f => .inl (f, pl)
    | .inr z => .inr z
def vu (op : Nat) (u : Int64 × Int64) : Int64 × Int64 := if op = 9 then (-u.1, u.2) else if op = 16 then (1 - u.1, 0) else u
/-- a rule's value: fv has the names' -/
def evl (l : List Int32) (w : List (Nat × Nat × Nat)) (E : List En) (fv : Nat → Rs (Int64 × Int64)) : Tr → Bool → Rs (Int64 × Int64)
  | .leaf k, _ => if kK w k = 2 then .inr ((nv l (l.length - kP w k) (kP w k) 0).toInt64, 1) else if kK w k = 12 then .inr (1, 0) else if kK w k = 13 then .inr (0, 0) else fv ((fnd l w E k).getD 0)
  | .branch n l' r, c => if un (n % 64) then sbd (evl l w E fv r false) fun u => .inr (vu (n % 64) u)
    else if n % 64 = 37 then (if c then evl l w E fv l' false else evl l w E fv r false)
    else sbd (evl l w E fv l' false) fun u =>
      if n % 64 = 17 then (if u.1 = 1 then evl l w E fv r false else .inr (0, 0))
      else if n % 64 = 18 then (if u.1 = 1 then .inr (1, 0) else evl l w E fv r false)
      else if n % 64 = 19 then evl l w E fv r (decide (u.1 = 1))
      else sbd (evl l w E fv r false) fun v => vr (kP w (n / 64)) (n % 64) u v
/-- a name's value, by those of the names before it; vs: the vars' -/
def evn (l : List Int32) (w : List (Nat × Nat × Nat)) (E : List En) (vs : Nat → Int32) (acc : List (Rs (Int64 × Int64))) (e : En) : Rs (Int64 × Int64) :=
  if e.2.1 = 1 then .inr e.2.2.2.2.1
  else if e.2.1 = 3 then .inr ((vs e.2.2.2.2.2.2.1).toInt64, if e.2.2.1 then 0 else 1)
  else evl l w E (fun j => acc.getD j (.inl (0, 0))) e.2.2.2.1 false
def fvs (l : List Int32) (w : List (Nat × Nat × Nat)) (E : List En) (vs : Nat → Int32) : Nat → List (Rs (Int64 × Int64))
  | 0 => []
  | m + 1 => fvs l w E vs m ++ [evn l w E vs (fvs l w E vs m) (E.getD m eN)]
/-- the names' values -/
def fvn (l : List Int32) (w : List (Nat × Nat × Nat)) (E : List En) (vs : Nat → Int32) (j : Nat) : Rs (Int64 × Int64) := evn l w E vs (fvs l w E vs j) (E.getD j eN)
theorem fvs_len (l : List Int32) (w : List (Nat × Nat × Nat)) (E : List En) (vs : Nat → Int32) : ∀ m, (fvs l w E vs m).length = m := by
  intro m
  induction m with
  | zero => rfl
  | succ m ih => rw [fvs, List.length_append, ih]; rfl
theorem fvs_get (l : List Int32) (w : List (Nat × Nat × Nat)) (E : List En) (vs : Nat → Int32) : ∀ m j, j < m → (fvs l w E vs m).getD j (.inl (0, 0)) = fvn l w E vs j := by
  intro m
  induction m with
  | zero => intro j h; omega
  | succ m ih =>
    intro j h
    have hl := fvs_len l w E vs m
    rw [fvs, List.getD_eq_getElem?_getD]
    by_cases c : j < m
    · rw [List.getElem?_append_left (by omega), ← List.getD_eq_getElem?_getD]
      exact ih j c
    · have e : j = m := by omega
      subst e
      rw [List.getElem?_append_right (by omega), hl, Nat.sub_self]
      rfl
/-- values: a number (kind 1), a truth (kind 2) -/
def okv (kd : Nat) (v : Int64 × Int64) : Prop := (kd = 1 ∧ -1000000000 < v.1 ∧ v.1 < 1000000000 ∧ 0 < v.2 ∧ v.2 < 1000000000) ∨ (kd = 2 ∧ (v.1 = 0 ∨ v.1 = 1) ∧ v.2 = 0)
