/-! blanks and notes: where they end -/
/-- m: in a note; f: how many steps at most -/
def sk (l : List Int32) : Nat → Bool → Nat → Nat
  | 0, _, i => i
  | f + 1, m, i => match l[i]? with
    | none => i
    | some c => if m then sk l f (!(decide (c = 10))) (i + 1) else if c = 35 then sk l f true (i + 1) else if isBl c then sk l f false (i + 1) else i
theorem sk_le (l : List Int32) : ∀ (f : Nat) (m : Bool) (i : Nat), i ≤ sk l f m i := by
  intro f
  induction f with
  | zero => intro m i; exact Nat.le_refl _
  | succ f ih =>
    intro m i
    unfold sk
    cases h : l[i]? with
    | none => exact Nat.le_refl _
    | some c =>
      dsimp only
      split
      · exact Nat.le_of_succ_le (ih _ (i + 1))
      · split
        · exact Nat.le_of_succ_le (ih _ (i + 1))
        · split
          · exact Nat.le_of_succ_le (ih _ (i + 1))
          · exact Nat.le_refl _
