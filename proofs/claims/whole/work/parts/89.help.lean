/-! reading the printed functions -/
theorem nI_lti {a b : Nat} (ha : a < 2 ^ 31) (hb : b < 2 ^ 31) : nI a < nI b ↔ a < b := by
  rw [Int32.lt_iff_toInt_lt, nI_toInt ha, nI_toInt hb]
  omega
theorem nI_lei {a b : Nat} (ha : a < 2 ^ 31) (hb : b < 2 ^ 31) : nI a ≤ nI b ↔ a ≤ b := by
  rw [Int32.le_iff_toInt_le, nI_toInt ha, nI_toInt hb]
  omega
theorem nI_sub {a b : Nat} (h : b ≤ a) : nI a - nI b = nI (a - b) := by
  have e : nI (a - b) + nI b = nI a := by rw [nI_add]; congr 1; omega
  rw [← e]
  exact Int32.add_sub_cancel _ _
theorem gI_i (σ : st_S) (a k b j : Nat) (v : Int32) : gI (st_i σ a k v) b j = if b = a ∧ j = k then v else gI σ b j := rfl
theorem gE_e (σ : st_S) (a k b j : Nat) (v : Int32) : gE (st_e σ a k v) b j = if b = a ∧ j = k then v else gE σ b j := rfl
theorem ob_some {α β : Type} (a : α) (f : α → Option β) : (some a).bind f = f a := rfl
/-- what holds of the tape -/
def Wd (σ : st_S) (l : List Int32) : Prop := gI σ 2 1 = nI l.length ∧ l.length ≤ gN σ 3 ∧ gN σ 3 ≤ 40000 ∧ l.length ≤ 16384 ∧ ∀ j (h : j < l.length), gE σ 3 j = l[j]
def ch (l : List Int32) (i : Nat) : Int32 := l.getD i 0
theorem ch_lt {l : List Int32} {i : Nat} (h : i < l.length) : ch l i = l[i] := by
  unfold ch
  rw [List.getD_eq_getElem?_getD, List.getElem?_eq_getElem h]
  rfl
theorem ch_ge {l : List Int32} {i : Nat} (h : l.length ≤ i) : ch l i = 0 := by
  unfold ch
  rw [List.getD_eq_getElem?_getD, List.getElem?_eq_none h]
  rfl
theorem bI_t : bI true = 1 := rfl
theorem bI_f : bI false = 0 := rfl
theorem bI_0 {b : Bool} : bI b = 0 ↔ b = false := by cases b <;> decide
theorem F19 (N : Nat) (c : Int32) (σ : st_S) : F_19 N c σ = some (bI (isLe c), σ) := by
  unfold F_19 J_19_12 isLe bI
  have e1 : (65 ≤ c) ↔ ¬ c < 65 := Int32.not_lt.symm
  have e2 : (97 ≤ c) ↔ ¬ c < 97 := Int32.not_lt.symm
  have e3 : (c ≤ 122) ↔ ¬ 122 < c := Int32.not_lt.symm
  by_cases h1 : c < 65 <;> by_cases h2 : c ≤ 90 <;> by_cases h3 : c < 97 <;> by_cases h4 : 122 < c <;> simp [e1, e2, e3, h1, h2, h3, h4]
theorem F21 (N : Nat) (c : Int32) (σ : st_S) : F_21 N c σ = some (bI (isDi c), σ) := by
  unfold F_21 isDi bI
  have e1 : (48 ≤ c) ↔ ¬ c < 48 := Int32.not_lt.symm
  have e3 : (c ≤ 57) ↔ ¬ 57 < c := Int32.not_lt.symm
  by_cases h1 : c < 48 <;> by_cases h4 : 57 < c <;> simp [e1, e3, h1, h4]
/-- how far a run of characters goes -/
def rn (p : Int32 → Bool) (l : List Int32) : Nat → Nat → Nat
  | 0, i => i
  | f + 1, i => if p (ch l i) then rn p l f (i + 1) else i
theorem rn_le (p : Int32 → Bool) (l : List Int32) : ∀ f i, i ≤ rn p l f i ∧ rn p l f i ≤ i + f := by
  intro f
  induction f with
  | zero => intro i; exact ⟨Nat.le_refl _, Nat.le_refl _⟩
  | succ f ih =>
    intro i
    unfold rn
    split
    · have := ih (i + 1)
      omega
    · omega
def isNm (c : Int32) : Bool := isLe c || isDi c || decide (c = 95)
/-- the rest of the tape is all that a run can take -/
theorem rn_end {p : Int32 → Bool} (hp : p 0 = false) {l : List Int32} {f i : Nat} (h : l.length ≤ i) : rn p l f i = i := by
  cases f with
  | zero => rfl
  | succ f =>
    unfold rn
    rw [ch_ge h, hp]
    rfl
theorem rn_more {p : Int32 → Bool} (hp : p 0 = false) {l : List Int32} : ∀ f i g, l.length ≤ i + f → rn p l (f + g) i = rn p l f i := by
  intro f
  induction f with
  | zero => intro i g h; rw [rn_end hp (by omega)]; rfl
  | succ f ih =>
    intro i g h
    rw [show f + 1 + g = (f + g) + 1 by omega]
    unfold rn
    rw [ih (i + 1) g (by omega)]
