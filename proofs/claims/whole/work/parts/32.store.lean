/-! THE STORE: the lasting cells by what they hold: ints, longs and references of objects by cell and slot; arrays by cell; the fresh cells; what was made -/
abbrev st_S : Type := (Nat → Nat → Int32) × (Nat → Nat → Int64) × (Nat → Nat → Nat) × (Nat → Nat) × (Nat → Nat → Int32) × (Nat → Nat → Int64) × Nat × (Nat → va_E) × Nat × Nat
/-- what a store holds: ints and longs of objects, references that may change, arrays' lengths, elements (ints, longs); how many fresh cells, these; cells and slots made -/
abbrev gI (σ : st_S) : Nat → Nat → Int32 := σ.1
abbrev gJ (σ : st_S) : Nat → Nat → Int64 := σ.2.1
abbrev gR (σ : st_S) : Nat → Nat → Nat := σ.2.2.1
abbrev gN (σ : st_S) : Nat → Nat := σ.2.2.2.1
abbrev gE (σ : st_S) : Nat → Nat → Int32 := σ.2.2.2.2.1
abbrev gL (σ : st_S) : Nat → Nat → Int64 := σ.2.2.2.2.2.1
abbrev gC (σ : st_S) : Nat := σ.2.2.2.2.2.2.1
abbrev gF (σ : st_S) : Nat → va_E := σ.2.2.2.2.2.2.2.1
abbrev gA (σ : st_S) : Nat := σ.2.2.2.2.2.2.2.2.1
abbrev gB (σ : st_S) : Nat := σ.2.2.2.2.2.2.2.2.2
/-- an object's fields: kinds 0 int, 1 long, 2 a reference that may change, q + 3 the reference q, which stays -/
def st_f (σ : st_S) (a : Nat) : Nat → List Nat → List Value
  | _, [] => []
  | k, 0 :: r => .int (σ.1 a k) :: st_f σ a (k + 1) r
  | k, 1 :: r => .long (σ.2.1 a k) :: st_f σ a (k + 1) r
  | k, 2 :: r => .ref (σ.2.2.1 a k) :: st_f σ a (k + 1) r
  | k, (q + 3) :: r => .ref q :: st_f σ a (k + 1) r
/-- a cell of the layout: an object (0, class, kinds), an array (1, tag, []); else a fresh one -/
def st_c (lay : List (Nat × (Nat × Nat × List Nat))) (σ : st_S) (a : Nat) : va_E := match vz_lk lay a with
  | some (0, ci, ks) => .inr (ci, st_f σ a 0 ks)
  | some (_, 1, _) => .inl (1, gN σ a, .inr (.inl (gL σ a)))
  | some (_, t, _) => .inl (t, gN σ a, .inl (gE σ a))
  | none => gF σ a
def st_h (lay : List (Nat × (Nat × Nat × List Nat))) (N : Nat) (σ : st_S) : vz_H := (gC σ + N, st_c lay σ, gA σ, gB σ)
def st_u {α : Type} (f : Nat → Nat → α) (a k : Nat) (v : α) : Nat → Nat → α := fun b j => if b = a ∧ j = k then v else f b j
theorem st_u_s {α : Type} (f : Nat → Nat → α) (a k : Nat) (v : α) : st_u f a k v a k = v := by simp [st_u]
theorem st_u_a {α : Type} (f : Nat → Nat → α) {a b : Nat} (k j : Nat) (v : α) (h : b ≠ a) : st_u f a k v b j = f b j := by simp [st_u, h]
theorem st_u_k {α : Type} (f : Nat → Nat → α) (a b : Nat) {k j : Nat} (v : α) (h : j ≠ k) : st_u f a k v b j = f b j := by simp [st_u, h]
/-- the store with one thing changed -/
def st_i (σ : st_S) (a k : Nat) (v : Int32) : st_S := (st_u σ.1 a k v, σ.2)
def st_l (σ : st_S) (a k : Nat) (v : Int64) : st_S := (σ.1, st_u σ.2.1 a k v, σ.2.2)
def st_r (σ : st_S) (a k : Nat) (v : Nat) : st_S := (σ.1, σ.2.1, st_u σ.2.2.1 a k v, σ.2.2.2)
def st_a (σ : st_S) (a : Nat) (x : Nat × (Nat → Int32)) : st_S := (σ.1, σ.2.1, σ.2.2.1, va_up σ.2.2.2.1 a x.1, va_up σ.2.2.2.2.1 a x.2, σ.2.2.2.2.2)
def st_b (σ : st_S) (a : Nat) (x : Nat × (Nat → Int64)) : st_S := (σ.1, σ.2.1, σ.2.2.1, va_up σ.2.2.2.1 a x.1, σ.2.2.2.2.1, va_up σ.2.2.2.2.2.1 a x.2, σ.2.2.2.2.2.2)
theorem st_f_other {σ σ' : st_S} {a : Nat} (h1 : ∀ k, σ'.1 a k = σ.1 a k) (h2 : ∀ k, σ'.2.1 a k = σ.2.1 a k) (h3 : ∀ k, σ'.2.2.1 a k = σ.2.2.1 a k) : ∀ (ks : List Nat) (k : Nat), st_f σ' a k ks = st_f σ a k ks := by
  intro ks
  induction ks with
  | nil => intro k; rfl
  | cons q r ih =>
    intro k
    match q with
    | 0 => show Value.int (σ'.1 a k) :: st_f σ' a (k + 1) r = Value.int (σ.1 a k) :: st_f σ a (k + 1) r; rw [h1, ih]
    | 1 => show Value.long (σ'.2.1 a k) :: st_f σ' a (k + 1) r = Value.long (σ.2.1 a k) :: st_f σ a (k + 1) r; rw [h2, ih]
    | 2 => show Value.ref (σ'.2.2.1 a k) :: st_f σ' a (k + 1) r = Value.ref (σ.2.2.1 a k) :: st_f σ a (k + 1) r; rw [h3, ih]
    | q + 3 => show Value.ref q :: st_f σ' a (k + 1) r = Value.ref q :: st_f σ a (k + 1) r; rw [ih]
theorem st_f_lo {σ σ' : st_S} {a n : Nat} (h1 : ∀ k, n ≤ k → σ'.1 a k = σ.1 a k) (h2 : ∀ k, n ≤ k → σ'.2.1 a k = σ.2.1 a k) (h3 : ∀ k, n ≤ k → σ'.2.2.1 a k = σ.2.2.1 a k) : ∀ (ks : List Nat) (k : Nat), n ≤ k → st_f σ' a k ks = st_f σ a k ks := by
  intro ks
  induction ks with
  | nil => intro k _; rfl
  | cons q r ih =>
    intro k hk
    match q with
    | 0 => show Value.int (σ'.1 a k) :: st_f σ' a (k + 1) r = Value.int (σ.1 a k) :: st_f σ a (k + 1) r; rw [h1 k hk, ih (k + 1) (by omega)]
    | 1 => show Value.long (σ'.2.1 a k) :: st_f σ' a (k + 1) r = Value.long (σ.2.1 a k) :: st_f σ a (k + 1) r; rw [h2 k hk, ih (k + 1) (by omega)]
    | 2 => show Value.ref (σ'.2.2.1 a k) :: st_f σ' a (k + 1) r = Value.ref (σ.2.2.1 a k) :: st_f σ a (k + 1) r; rw [h3 k hk, ih (k + 1) (by omega)]
    | q + 3 => show Value.ref q :: st_f σ' a (k + 1) r = Value.ref q :: st_f σ a (k + 1) r; rw [ih (k + 1) (by omega)]
/-- a field set: n is its slot, counted from k0 -/
theorem st_f_i (σ : st_S) (a : Nat) (v : Int32) : ∀ (ks : List Nat) (n k0 : Nat), ks[n]? = some 0 → st_f (st_i σ a (k0 + n) v) a k0 ks = (st_f σ a k0 ks).set n (.int v) := by
  intro ks
  induction ks with
  | nil => intro n k0 h; cases h
  | cons q r ih =>
    intro n k0 h
    cases n with
    | zero =>
      have h : q = 0 := by simpa using h
      subst h
      show Value.int ((st_i σ a (k0 + 0) v).1 a k0) :: st_f (st_i σ a (k0 + 0) v) a (k0 + 1) r = Value.int v :: st_f σ a (k0 + 1) r
      rw [show (st_i σ a (k0 + 0) v).1 a k0 = v from st_u_s _ _ _ _, st_f_lo (σ := σ) (σ' := st_i σ a (k0 + 0) v) (a := a) (n := k0 + 1) (fun k hk => st_u_k _ _ _ _ (by omega)) (fun _ _ => rfl) (fun _ _ => rfl) r (k0 + 1) (Nat.le_refl _)]
    | succ n =>
      have h : r[n]? = some 0 := by simpa using h
      have e := ih n (k0 + 1) h
      rw [show k0 + 1 + n = k0 + (n + 1) by omega] at e
      have e0 : (st_i σ a (k0 + (n + 1)) v).1 a k0 = σ.1 a k0 := st_u_k _ _ _ _ (by omega)
      match q with
      | 0 => show Value.int ((st_i σ a (k0 + (n + 1)) v).1 a k0) :: _ = Value.int (σ.1 a k0) :: _; rw [e0, e]
      | 1 => show Value.long (σ.2.1 a k0) :: _ = Value.long (σ.2.1 a k0) :: _; rw [e]
      | 2 => show Value.ref (σ.2.2.1 a k0) :: _ = Value.ref (σ.2.2.1 a k0) :: _; rw [e]
      | q + 3 => show Value.ref q :: _ = Value.ref q :: _; rw [e]
theorem st_f_l (σ : st_S) (a : Nat) (v : Int64) : ∀ (ks : List Nat) (n k0 : Nat), ks[n]? = some 1 → st_f (st_l σ a (k0 + n) v) a k0 ks = (st_f σ a k0 ks).set n (.long v) := by
  intro ks
  induction ks with
  | nil => intro n k0 h; cases h
  | cons q r ih =>
    intro n k0 h
    cases n with
    | zero =>
      have h : q = 1 := by simpa using h
      subst h
      show Value.long ((st_l σ a (k0 + 0) v).2.1 a k0) :: st_f (st_l σ a (k0 + 0) v) a (k0 + 1) r = Value.long v :: st_f σ a (k0 + 1) r
      rw [show (st_l σ a (k0 + 0) v).2.1 a k0 = v from st_u_s _ _ _ _, st_f_lo (σ := σ) (σ' := st_l σ a (k0 + 0) v) (a := a) (n := k0 + 1) (fun _ _ => rfl) (fun k hk => st_u_k _ _ _ _ (by omega)) (fun _ _ => rfl) r (k0 + 1) (Nat.le_refl _)]
    | succ n =>
      have h : r[n]? = some 1 := by simpa using h
      have e := ih n (k0 + 1) h
      rw [show k0 + 1 + n = k0 + (n + 1) by omega] at e
      have e0 : (st_l σ a (k0 + (n + 1)) v).2.1 a k0 = σ.2.1 a k0 := st_u_k _ _ _ _ (by omega)
      match q with
      | 0 => show Value.int (σ.1 a k0) :: _ = Value.int (σ.1 a k0) :: _; rw [e]
      | 1 => show Value.long ((st_l σ a (k0 + (n + 1)) v).2.1 a k0) :: _ = Value.long (σ.2.1 a k0) :: _; rw [e0, e]
      | 2 => show Value.ref (σ.2.2.1 a k0) :: _ = Value.ref (σ.2.2.1 a k0) :: _; rw [e]
      | q + 3 => show Value.ref q :: _ = Value.ref q :: _; rw [e]
theorem st_f_r (σ : st_S) (a : Nat) (v : Nat) : ∀ (ks : List Nat) (n k0 : Nat), ks[n]? = some 2 → st_f (st_r σ a (k0 + n) v) a k0 ks = (st_f σ a k0 ks).set n (.ref v) := by
  intro ks
  induction ks with
  | nil => intro n k0 h; cases h
  | cons q r ih =>
    intro n k0 h
    cases n with
    | zero =>
      have h : q = 2 := by simpa using h
      subst h
      show Value.ref ((st_r σ a (k0 + 0) v).2.2.1 a k0) :: st_f (st_r σ a (k0 + 0) v) a (k0 + 1) r = Value.ref v :: st_f σ a (k0 + 1) r
      rw [show (st_r σ a (k0 + 0) v).2.2.1 a k0 = v from st_u_s _ _ _ _, st_f_lo (σ := σ) (σ' := st_r σ a (k0 + 0) v) (a := a) (n := k0 + 1) (fun _ _ => rfl) (fun _ _ => rfl) (fun k hk => st_u_k _ _ _ _ (by omega)) r (k0 + 1) (Nat.le_refl _)]
    | succ n =>
      have h : r[n]? = some 2 := by simpa using h
      have e := ih n (k0 + 1) h
      rw [show k0 + 1 + n = k0 + (n + 1) by omega] at e
      have e0 : (st_r σ a (k0 + (n + 1)) v).2.2.1 a k0 = σ.2.2.1 a k0 := st_u_k _ _ _ _ (by omega)
      match q with
      | 0 => show Value.int (σ.1 a k0) :: _ = Value.int (σ.1 a k0) :: _; rw [e]
      | 1 => show Value.long (σ.2.1 a k0) :: _ = Value.long (σ.2.1 a k0) :: _; rw [e]
      | 2 => show Value.ref ((st_r σ a (k0 + (n + 1)) v).2.2.1 a k0) :: _ = Value.ref (σ.2.2.1 a k0) :: _; rw [e0, e]
      | q + 3 => show Value.ref q :: _ = Value.ref q :: _; rw [e]
section STH
variable {lay : List (Nat × (Nat × Nat × List Nat))} {N : Nat} {σ : st_S} {a ci k : Nat} {ks : List Nat}
theorem st_c_o {σ σ' : st_S} {a b : Nat} (hb : b ≠ a) (h1 : ∀ b k, b ≠ a → gI σ' b k = gI σ b k) (h2 : ∀ b k, b ≠ a → gJ σ' b k = gJ σ b k) (h3 : ∀ b k, b ≠ a → gR σ' b k = gR σ b k) (h4 : ∀ b, b ≠ a → gN σ' b = gN σ b) (h5 : ∀ b, b ≠ a → gE σ' b = gE σ b) (h6 : ∀ b, b ≠ a → gL σ' b = gL σ b) (h7 : gF σ' = gF σ) : st_c lay σ' b = st_c lay σ b := by
  unfold st_c
  split
  · rw [st_f_other (σ := σ) (fun k => h1 b k hb) (fun k => h2 b k hb) (fun k => h3 b k hb)]
  · rw [h4 b hb, h6 b hb]
  · rw [h4 b hb, h5 b hb]
  · rw [h7]
theorem st_h_i (hl : vz_lk lay a = some (0, ci, ks)) (hk : ks[k]? = some 0) (v : Int32) : vz_upd (st_h lay N σ) a (.inr (ci, (st_f σ a 0 ks).set k (.int v))) = st_h lay N (st_i σ a k v) := by
  refine Prod.ext rfl (Prod.ext (funext fun b => ?_) rfl)
  show va_up (st_c lay σ) a _ b = st_c lay (st_i σ a k v) b
  by_cases e : b = a
  · subst e
    rw [va_up_self]
    unfold st_c
    rw [hl]
    have e := st_f_i σ b v ks k 0 hk
    rw [Nat.zero_add] at e
    show Sum.inr (ci, (st_f σ b 0 ks).set k (.int v)) = Sum.inr (ci, st_f (st_i σ b k v) b 0 ks)
    rw [e]
  · rw [va_up_ne _ _ e]
    exact (st_c_o (σ := σ) (σ' := st_i σ a k v) e (fun b k h => st_u_a _ _ _ _ h) (fun _ _ _ => rfl) (fun _ _ _ => rfl) (fun _ _ => rfl) (fun _ _ => rfl) (fun _ _ => rfl) rfl).symm
theorem st_h_l (hl : vz_lk lay a = some (0, ci, ks)) (hk : ks[k]? = some 1) (v : Int64) : vz_upd (st_h lay N σ) a (.inr (ci, (st_f σ a 0 ks).set k (.long v))) = st_h lay N (st_l σ a k v) := by
  refine Prod.ext rfl (Prod.ext (funext fun b => ?_) rfl)
  show va_up (st_c lay σ) a _ b = st_c lay (st_l σ a k v) b
  by_cases e : b = a
  · subst e
    rw [va_up_self]
    unfold st_c
    rw [hl]
    have e := st_f_l σ b v ks k 0 hk
    rw [Nat.zero_add] at e
    show Sum.inr (ci, (st_f σ b 0 ks).set k (.long v)) = Sum.inr (ci, st_f (st_l σ b k v) b 0 ks)
    rw [e]
  · rw [va_up_ne _ _ e]
    exact (st_c_o (σ := σ) (σ' := st_l σ a k v) e (fun _ _ _ => rfl) (fun b k h => st_u_a _ _ _ _ h) (fun _ _ _ => rfl) (fun _ _ => rfl) (fun _ _ => rfl) (fun _ _ => rfl) rfl).symm
theorem st_h_r (hl : vz_lk lay a = some (0, ci, ks)) (hk : ks[k]? = some 2) (v : Nat) : vz_upd (st_h lay N σ) a (.inr (ci, (st_f σ a 0 ks).set k (.ref v))) = st_h lay N (st_r σ a k v) := by
  refine Prod.ext rfl (Prod.ext (funext fun b => ?_) rfl)
  show va_up (st_c lay σ) a _ b = st_c lay (st_r σ a k v) b
  by_cases e : b = a
  · subst e
    rw [va_up_self]
    unfold st_c
    rw [hl]
    have e := st_f_r σ b v ks k 0 hk
    rw [Nat.zero_add] at e
    show Sum.inr (ci, (st_f σ b 0 ks).set k (.ref v)) = Sum.inr (ci, st_f (st_r σ b k v) b 0 ks)
    rw [e]
  · rw [va_up_ne _ _ e]
    exact (st_c_o (σ := σ) (σ' := st_r σ a k v) e (fun _ _ _ => rfl) (fun _ _ _ => rfl) (fun b k h => st_u_a _ _ _ _ h) (fun _ _ => rfl) (fun _ _ => rfl) (fun _ _ => rfl) rfl).symm
theorem st_h_a {t : Nat} (hl : vz_lk lay a = some (1, t, ks)) (ht : t ≠ 1) (x : Nat × (Nat → Int32)) : vz_upd (st_h lay N σ) a (.inl (t, x.1, .inl x.2)) = st_h lay N (st_a σ a x) := by
  refine Prod.ext rfl (Prod.ext (funext fun b => ?_) rfl)
  show va_up (st_c lay σ) a _ b = st_c lay (st_a σ a x) b
  by_cases e : b = a
  · subst e
    rw [va_up_self]
    unfold st_c
    rw [hl]
    have e8 : gN (st_a σ b x) b = x.1 := va_up_self _ _ _
    have e9 : gE (st_a σ b x) b = x.2 := va_up_self _ _ _
    split
    · next h => cases h
    · next h => cases h; exact absurd rfl ht
    · next h => cases h; rw [e8, e9]
    · next h => cases h
  · rw [va_up_ne _ _ e]
    exact (st_c_o (σ := σ) (σ' := st_a σ a x) e (fun _ _ _ => rfl) (fun _ _ _ => rfl) (fun _ _ _ => rfl) (fun b h => va_up_ne _ _ h) (fun b h => va_up_ne _ _ h) (fun _ _ => rfl) rfl).symm
theorem st_h_b (hl : vz_lk lay a = some (1, 1, ks)) (x : Nat × (Nat → Int64)) : vz_upd (st_h lay N σ) a (.inl (1, x.1, .inr (.inl x.2))) = st_h lay N (st_b σ a x) := by
  refine Prod.ext rfl (Prod.ext (funext fun b => ?_) rfl)
  show va_up (st_c lay σ) a _ b = st_c lay (st_b σ a x) b
  by_cases e : b = a
  · subst e
    rw [va_up_self]
    unfold st_c
    rw [hl]
    have e8 : gN (st_b σ b x) b = x.1 := va_up_self _ _ _
    have e9 : gL (st_b σ b x) b = x.2 := va_up_self _ _ _
    show (.inl (1, x.1, .inr (.inl x.2)) : va_E) = .inl (1, gN (st_b σ b x) b, .inr (.inl (gL (st_b σ b x) b)))
    rw [e8, e9]
  · rw [va_up_ne _ _ e]
    exact (st_c_o (σ := σ) (σ' := st_b σ a x) e (fun _ _ _ => rfl) (fun _ _ _ => rfl) (fun _ _ _ => rfl) (fun b h => va_up_ne _ _ h) (fun _ _ => rfl) (fun b h => va_up_ne _ _ h) rfl).symm
end STH
/-- an element set -/
def st_e (σ : st_S) (a j : Nat) (v : Int32) : st_S := (σ.1, σ.2.1, σ.2.2.1, σ.2.2.2.1, st_u σ.2.2.2.2.1 a j v, σ.2.2.2.2.2)
def st_E (σ : st_S) (a j : Nat) (v : Int64) : st_S := (σ.1, σ.2.1, σ.2.2.1, σ.2.2.2.1, σ.2.2.2.2.1, st_u σ.2.2.2.2.2.1 a j v, σ.2.2.2.2.2.2)
theorem va_up_id {α : Type} (f : Nat → α) (a : Nat) : va_up f a (f a) = f := by
  funext b
  by_cases e : b = a
  · subst e; rw [va_up_self]
  · rw [va_up_ne _ _ e]
theorem va_up_st {α : Type} (f : Nat → Nat → α) (a j : Nat) (v : α) : va_up f a (fun i => if i = j then v else f a i) = st_u f a j v := by
  funext b i
  by_cases e : b = a
  · subst e
    rw [va_up_self]
    by_cases e2 : i = j
    · subst e2; rw [if_pos rfl, st_u_s]
    · rw [if_neg e2, st_u_k _ _ _ _ e2]
  · rw [va_up_ne _ _ e, st_u_a _ _ _ _ e]
theorem st_a_e (σ : st_S) (a j : Nat) (v : Int32) : st_a σ a (gN σ a, upd (gE σ a) j v) = st_e σ a j v := by
  unfold st_a st_e
  show (σ.1, σ.2.1, σ.2.2.1, va_up σ.2.2.2.1 a (σ.2.2.2.1 a), va_up σ.2.2.2.2.1 a (fun i => if i = j then v else σ.2.2.2.2.1 a i), σ.2.2.2.2.2) = _
  rw [va_up_id, va_up_st]
theorem st_b_E (σ : st_S) (a j : Nat) (v : Int64) : st_b σ a (gN σ a, vp_updL (gL σ a) j v) = st_E σ a j v := by
  unfold st_b st_E
  show (σ.1, σ.2.1, σ.2.2.1, va_up σ.2.2.2.1 a (σ.2.2.2.1 a), σ.2.2.2.2.1, va_up σ.2.2.2.2.2.1 a (fun i => if i = j then v else σ.2.2.2.2.2.1 a i), σ.2.2.2.2.2.2) = _
  rw [va_up_id, va_up_st]
