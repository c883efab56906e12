/-! a word on both sides of the class: xtake and cst -/
/-- the parser's state X is the pure state c, before the i-th word -/
def RX (X : Xs) (c : Cs) (i : Nat) : Prop := X.1 8 = nI c.1 ∧
  (13 ≤ c.1 → X.1 9 = nI c.2.1 ∧ X.1 12 = nI c.2.2.1 ∧ WS X.2.1 c.2.2.2.1 X.2.2.1 ∧ (c.2.1 = 6 → ∃ j, j < X.2.2.1 ∧ X.1 15 = nI j) ∧ 2 * X.2.2.1 + csts c.2.2.2.1 + (if c.1 = 15 then 1 else 0) ≤ 3 * i) ∧
  (c.1 < 13 → 2 * X.2.2.1 ≤ 3 * i) ∧
  (c.1 ≠ 0 → ∃ j, j < X.2.2.1 ∧ X.1 14 = nI j ∧ (c.1 = 1 → (X.2.2.2 j 0 = 29 ↔ c.2.2.2.2 = true)))
/-- both refuse, or both go on -/
def Bo (o : Option Xs) (d : Option Cs) (i : Nat) : Prop := match o, d with
  | none, none => True
  | some X, some c => RX X c i
  | _, _ => False
theorem okC_w {w r v : Nat} {s : List Nat} {b : Bool} (h : okC (w, r, v, s, b) = true) (hw : 13 ≤ w) : okS s 0 = true ∧ v ≤ 40 ∧ lb s ≤ v + 1 ∧ (w ≠ 13 → lb s ≤ v) ∧ s.length ≤ 251 ∧ r < 8 ∧ w ≤ 15 := by
  have h : (if w = 15 ∨ w = 14 then okS s 0 && decide (v = lb s + (if r = 7 then 1 else 0)) && decide (v ≤ 40) && decide (r < 8)
    else if w = 13 then okS s 0 && decide (v + 1 = lb s + (if r = 7 then 1 else 0)) && decide (v ≤ 40) && decide (r < 8) && hdl s
    else decide (w < 13) && decide (r = 0) && decide (v = 0) && decide (s = [])) = true := h
  by_cases c1 : w = 15 ∨ w = 14
  · rw [if_pos c1] at h
    obtain ⟨a1, a2, a3, a4⟩ := and4 h
    have hl := ok_len s 0 a1
    have hv := of_decide_eq_true a2
    have h40 := of_decide_eq_true a3
    have hr := of_decide_eq_true a4
    refine ⟨a1, h40, ?_, fun _ => ?_, ?_, hr, by omega⟩
    all_goals (split at hv <;> omega)
  rw [if_neg c1] at h
  by_cases c3 : w = 13
  · rw [if_pos c3] at h
    obtain ⟨h1, h2⟩ := Bool.and_eq_true_iff.mp h
    obtain ⟨a1, a2, a3, a4⟩ := and4 h1
    have hl := ok_len s 0 a1
    have hv := of_decide_eq_true a2
    have h40 := of_decide_eq_true a3
    have hr := of_decide_eq_true a4
    refine ⟨a1, h40, ?_, fun q => absurd c3 q, ?_, hr, by omega⟩
    all_goals (split at hv <;> omega)
  rw [if_neg c3] at h
  obtain ⟨a1, a2, a3, a4⟩ := and4 h
  have := of_decide_eq_true a1
  omega
theorem lb_len (s : List Nat) : lb s ≤ s.length := by
  induction s with
  | nil => exact Nat.le_refl _
  | cons a s ih =>
    show (if _ then 1 else 0) + lb s ≤ s.length + 1
    split <;> omega
section ST
variable {p : Nat → Int32} {W : List (Nat → Int32)} {n i r v : Nat} {M : Nat → Nat → Int32} {s : List Nat} {b : Bool} {st sz vl : Int32}
/-- the head of the item -/
def Hd (p : Nat → Int32) (n : Nat) : Prop := ∃ j, j < n ∧ p 14 = nI j
def Br (p : Nat → Int32) (n r : Nat) : Prop := r = 6 → ∃ j, j < n ∧ p 15 = nI j
theorem RX.i13 {w : Nat} (h8 : p 8 = nI w) (hw : 13 ≤ w) (h9 : p 9 = nI r) (h12 : p 12 = nI v) (hs : WS W s n) (hb : Br p n r) (hc : 2 * n + csts s + (if w = 15 then 1 else 0) ≤ 3 * i) (hd : Hd p n) : RX (p, W, n, M) (w, r, v, s, b) i := by
  refine ⟨h8, fun _ => ⟨h9, h12, hs, hb, hc⟩, fun q => absurd q (by show ¬ w < 13; omega), fun _ => ?_⟩
  obtain ⟨j, j1, j2⟩ := hd
  exact ⟨j, j1, j2, fun q => absurd q (by show ¬ w = 1; omega)⟩
theorem WS.hW {hs : WS W s n} : hW W = nI (tpo s) := by
  cases W with
  | nil => rw [hs.nil]; rfl
  | cons e W =>
    obtain ⟨a, s', rfl, e0, ha, -⟩ := hs.c
    show hI (e 0) = nI (hol a)
    rw [e0]; exact hI_nI a ha
theorem jok_1 {e : Nat → Int32} {n : Nat} (h : e 4 = -1) : jok e n := Or.inl (by rw [h]; decide)
/-- an operation with no jump waits -/
theorem psh {a : Nat} {op : Int32} (ho : op = nI a) (ha : a < 40) (h36 : a ≠ 36) (hs : WS W s n) (hl : s.length < 256) : xpush op (-1) st (p, W, n, M) = some (up p 8 14, ent op st (p 13) (-1) (-1) :: W, n, M) ∧ WS (ent op st (p 13) (-1) (-1) :: W) (a :: s) n := by
  refine ⟨if_pos (by show W.length < 256; rw [hs.len]; exact hl), hs.i ho ha (jok_1 rfl) fun q => absurd ?_ h36⟩
  have q : op = 36 := q
  rw [ho] at q
  exact (nI_eq (a := a) (b := 36) (by omega) (by decide)).mp q
/-- an operation with a jump waits -/
theorem psj {a j : Nat} {op : Int32} (ho : op = nI a) (ha : a < 40) (hj : j < n) (hs : WS W s n) (hl : s.length < 256) : xpush op (nI j) st (p, W, n, M) = some (up p 8 14, ent op st (p 13) (-1) (nI j) :: W, n, M) ∧ WS (ent op st (p 13) (-1) (nI j) :: W) (a :: s) n :=
  ⟨if_pos (by show W.length < 256; rw [hs.len]; exact hl), hs.i ho ha (Or.inr ⟨j, hj, rfl⟩) fun _ => ⟨j, hj, rfl⟩⟩
theorem dp_40 (h12 : p 12 = nI v) (hv : v ≤ 40) {Y : List (Nat → Int32) × Nat × (Nat → Nat → Int32)} : xdeep (p, Y) = if v < 40 then some (up p 12 (nI (v + 1)), Y) else none := by
  unfold xdeep
  dsimp only
  rw [h12, nI_1]
  have q : nI v < 40 ↔ v < 40 := nI_lti (b := 40) (by omega) (by decide)
  by_cases c : v < 40
  · rw [if_pos c, if_pos (q.mpr c)]
  · rw [if_neg c, if_neg (fun z => c (q.mp z))]
end ST
