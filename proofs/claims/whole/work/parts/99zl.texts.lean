/-! WHAT A TEXT MEANS: items. A text: names, target, commands (latest first) -/
abbrev Tx : Type := List En × Option Tr × List It
def cnt (E : List En) (s : Nat) : Nat := (E.filter fun e => decide (e.2.1 = s)).length
/-- faults of an item's head -/
def hdk (l : List Int32) (w : List (Nat × Nat × Nat)) (E : List En) (tg : Option Tr) (C : List It) (op k : Nat) : Option (Nat × Nat) :=
  if op = 27 ∨ op = 28 then (if 60 ≤ cnt E 1 + cnt E 2 then some (5, kP w k) else match fnd l w E (k + 1) with
    | none => none
    | some _ => some (2, kP w (k + 1)))
  else if op = 29 then (if 12 ≤ cnt E 3 then some (5, kP w k) else match fnd l w E (k + 1) with
    | none => none
    | some _ => some (2, kP w (k + 1)))
  else if op = 30 then (match tg with
    | none => none
    | some _ => some (4, kP w k))
  else (if 60 ≤ C.length then some (5, kP w k) else none)
/-- branches so far, names set so far in the branch -/
def brs : List (Nat × Tr) → Nat
  | [] => 0
  | (r, _) :: R => if r = 6 then brs R + 1 else brs R
def sts (l : List Int32) (w : List (Nat × Nat × Nat)) (E : List En) : List (Nat × Tr) → List Nat
  | [] => []
  | (r, T) :: R => if r = 7 then (fnd l w E (bw T - 3)).getD 0 :: sts l w E R else []
/-- the kind that a rule must have; 0: any -/
def wkd (l : List Int32) (w : List (Nat × Nat × Nat)) (E : List En) (k r : Nat) (T : Tr) : Nat :=
  if r = 1 ∨ r = 2 ∨ r = 6 then 1
  else if r = 3 then (if kK w (k + 3) = 5 then 2 else 1)
  else if r = 4 ∨ r = 5 then 2
  else if r = 7 then kdn (E.getD ((fnd l w E (bw T - 3)).getD 0) eN)
  else 0
/-- faults of what stands ahead of a rule -/
def ahd (l : List Int32) (w : List (Nat × Nat × Nat)) (E : List En) (R : List (Nat × Tr)) (r : Nat) (T : Tr) : Option (Nat × Nat) :=
  if r = 6 then (if 8 ≤ brs R then some (5, kP w (bw T)) else none)
  else if r = 7 then (match fnd l w E (bw T - 3) with
    | none => some (2, kP w (bw T - 3))
    | some j => if (E.getD j eN).2.1 ≠ 3 then some (2, kP w (bw T - 3)) else if (sts l w E R).contains j then some (4, kP w (bw T - 3)) else none)
  else none
/-- the first fault of an item's rules -/
def rul (l : List Int32) (w : List (Nat × Nat × Nat)) (E : List En) (op k : Nat) : List (Nat × Tr) → Option (Nat × Nat)
  | [] => none
  | (r, T) :: R => match rul l w E op k R with
    | some e => some e
    | none => match ahd l w E R r T with
      | some e => some e
      | none => match chk l w E (cOn op) T with
        | .inl e => some e
        | .inr kd => if wkd l w E k r T = 0 ∨ kd = wkd l w E k r T then none else some (3, kP w (bw T))
/-- a rule of constants alone -/
def eT (l : List Int32) (w : List (Nat × Nat × Nat)) (E : List En) (T : Tr) : Rs (Int64 × Int64) := evl l w E (fvn l w E fun _ => 0) T false
def eI (l : List Int32) (w : List (Nat × Nat × Nat)) (E : List En) (T : Tr) : Rs Int32 := sbd (eT l w E T) fun v => if v.2 = 1 then .inr v.1.toInt32 else .inl (8, kP w (bw T))
/-- a var's first, last, begin -/
def rng (l : List Int32) (w : List (Nat × Nat × Nat)) (E : List En) (k : Nat) (R : List (Nat × Tr)) : Rs (Int32 × Int32 × Int32) :=
  if kK w (k + 3) = 5 then (match R with
    | [] => .inr (0, 1, 0)
    | (_, T) :: _ => sbd (eT l w E T) fun v => .inr (0, 1, v.1.toInt32))
  else match R with
    | (3, Tb) :: (_, Th) :: (_, Tl) :: _ => sbd (eI l w E Tl) fun lo => sbd (eI l w E Th) fun hi => if hi < lo ∨ ¬ hi - lo < 10000 then .inl (9, kP w (bw Th)) else sbd (eI l w E Tb) fun b => if b < lo ∨ ¬ b ≤ hi then .inl (9, kP w (bw Tb)) else .inr (lo, hi, b)
    | (_, Th) :: (_, Tl) :: _ => sbd (eI l w E Tl) fun lo => sbd (eI l w E Th) fun hi => if hi < lo ∨ ¬ hi - lo < 10000 then .inl (9, kP w (bw Th)) else .inr (lo, hi, lo)
    | _ => .inl (0, 0)
def kdT (l : List Int32) (w : List (Nat × Nat × Nat)) (E : List En) (co : Bool) (T : Tr) : Bool := match chk l w E co T with
  | .inr kd => decide (kd = 2)
  | .inl _ => false
def hdT (R : List (Nat × Tr)) : Tr := match R with
  | [] => .leaf 0
  | (_, T) :: _ => T
/-- an item whose rules are in order -/
def fin (l : List Int32) (w : List (Nat × Nat × Nat)) (x : Tx) (op k : Nat) (R : List (Nat × Tr)) : Rs Tx :=
  if op = 27 then sbd (eT l w x.1 (hdT R)) fun v => .inr (x.1 ++ [(k + 1, 1, kdT l w x.1 true (hdT R), hdT R, v, (0, 0, 0), 0, cnt x.1 1 + cnt x.1 2)], x.2.1, x.2.2)
  else if op = 28 then .inr (x.1 ++ [(k + 1, 2, kdT l w x.1 false (hdT R), hdT R, (0, 0), (0, 0, 0), cnt x.1 2, cnt x.1 1 + cnt x.1 2)], x.2.1, x.2.2)
  else if op = 29 then sbd (rng l w x.1 k R) fun b => .inr (x.1 ++ [(k + 1, 3, decide (kK w (k + 3) = 5), .leaf 0, (0, 0), b, cnt x.1 3, cnt x.1 3)], x.2.1, x.2.2)
  else if op = 30 then .inr (x.1, some (hdT R), x.2.2)
  else .inr (x.1, x.2.1, (op, k, R) :: x.2.2)
def itk (l : List Int32) (w : List (Nat × Nat × Nat)) (x : Tx) (op k : Nat) (R : List (Nat × Tr)) : Rs Tx := match hdk l w x.1 x.2.1 x.2.2 op k with
  | some e => .inl e
  | none => match rul l w x.1 op k R with
    | some e => .inl e
    | none => fin l w x op k R
/-- all items (latest first) -/
def itA (l : List Int32) (w : List (Nat × Nat × Nat)) : List It → Rs Tx
  | [] => .inr ([], none, [])
  | (op, k, R) :: I => sbd (itA l w I) fun x => itk l w x op k R
/-- the text, or its first fault; m: the word that ends it -/
def txt (l : List Int32) (w : List (Nat × Nat × Nat)) (I : List It) (m : Nat) : Rs Tx := sbd (itA l w I) fun x => match x.2.1 with
  | none => .inl (10, kP w m)
  | some _ => .inr x
