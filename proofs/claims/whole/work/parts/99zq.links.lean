/-! the class's checker: the rules of an item, their links -/
/-- the latest branch's node, the latest sets' -/
def brn (h : Nat) : List (Nat × Tr) → Nat
  | [] => h
  | (r, _) :: R => if r = 6 then lyn h R else brn h R
def sns (h : Nat) : List (Nat × Tr) → List Nat
  | [] => []
  | (r, _) :: R => if r = 7 then lyn h R :: sns h R else []
/-- a node of a rule -/
def cdn (h : Nat) : List (Nat × Tr) → Nat → Prop
  | [], _ => False
  | (r, T) :: R, i => (lyn h R + mk r ≤ i ∧ i < lyn h R + mk r + tln T + 1) ∨ cdn h R i
theorem lyn_gt (h : Nat) : ∀ R : List (Nat × Tr), h < lyn h R := by
  intro R
  induction R with
  | nil => exact Nat.lt_succ_self h
  | cons x R ih => show h < lyn h R + mk x.1 + tln x.2 + 1; omega
theorem cdn_b {h : Nat} : ∀ {R : List (Nat × Tr)} {i : Nat}, cdn h R i → h < i ∧ i < lyn h R := by
  intro R
  induction R with
  | nil => intro i z; exact absurd z (by intro z; exact z)
  | cons x R ih =>
    obtain ⟨r, T⟩ := x
    intro i z
    have g := lyn_gt h R
    have e : lyn h ((r, T) :: R) = lyn h R + mk r + tln T + 1 := rfl
    rcases z with z | z
    · omega
    · have := ih z; omega
theorem brn_b (h : Nat) : ∀ R : List (Nat × Tr), h ≤ brn h R ∧ brn h R < lyn h R := by
  intro R
  induction R with
  | nil => exact ⟨Nat.le_refl _, Nat.lt_succ_self h⟩
  | cons x R ih =>
    obtain ⟨r, T⟩ := x
    have g := lyn_gt h R
    have e : lyn h ((r, T) :: R) = lyn h R + mk r + tln T + 1 := rfl
    have e2 : brn h ((r, T) :: R) = if r = 6 then lyn h R else brn h R := rfl
    rw [e, e2]
    split <;> omega
theorem brn_c (h : Nat) : ∀ R : List (Nat × Tr), ¬ cdn h R (brn h R) := by
  intro R
  induction R with
  | nil => exact fun z => z
  | cons x R ih =>
    obtain ⟨r, T⟩ := x
    have g := brn_b h R
    have e2 : brn h ((r, T) :: R) = if r = 6 then lyn h R else brn h R := rfl
    intro z
    rcases z with z | z
    · rw [e2] at z
      split at z
      · rename_i c
        rw [c] at z
        have : mk 6 = 1 := rfl
        omega
      · omega
    · rw [e2] at z
      split at z
      · have := cdn_b z; omega
      · exact ih z
theorem sns_b {h : Nat} : ∀ {R : List (Nat × Tr)} {s : Nat}, s ∈ sns h R → h < s ∧ s < lyn h R ∧ ¬ cdn h R s := by
  intro R
  induction R with
  | nil => intro s z; exact absurd z (by intro z; cases z)
  | cons x R ih =>
    obtain ⟨r, T⟩ := x
    intro s z
    have g := lyn_gt h R
    have e : lyn h ((r, T) :: R) = lyn h R + mk r + tln T + 1 := rfl
    have e2 : sns h ((r, T) :: R) = if r = 7 then lyn h R :: sns h R else [] := rfl
    rw [e2] at z
    split at z
    · rename_i c
      have m7 : mk r = 1 := by rw [c]; rfl
      rcases List.mem_cons.mp z with y | y
      · subst y
        refine ⟨g, by omega, fun q => ?_⟩
        rcases q with q | q
        · omega
        · have := cdn_b q; omega
      · obtain ⟨y1, y2, y3⟩ := ih y
        refine ⟨y1, by omega, fun q => ?_⟩
        rcases q with q | q
        · omega
        · exact y3 q
    · cases z
section LKS
variable {l : List Int32} {w : List (Nat × Nat × Nat)} {E : List En} {X : Nat → Nat} {M M' : Nat → Nat → Int32} {op k h n : Nat}
/-- a rule that is checked: its nodes, its end -/
def RuC (l : List Int32) (w : List (Nat × Nat × Nat)) (E : List En) (X : Nat → Nat) (M : Nat → Nat → Int32) (T : Tr) (a : Nat) (co : Bool) (kd : Nat) : Prop := Cr l w E X M T a ∧ chk l w E co T = .inr kd ∧ kd < 3 ∧ M (a + tln T) 0 = nI 26 ∧ M (a + tln T) 1 = nI (kP w (bw T)) ∧ M (a + tln T) 2 = nI (a + tln T - 1) ∧ M (a + tln T) 4 = nI a ∧ M (a + tln T - 1) 5 = nI kd
def RL (l : List Int32) (w : List (Nat × Nat × Nat)) (E : List En) (X : Nat → Nat) (M : Nat → Nat → Int32) (op k h : Nat) : List (Nat × Tr) → Prop
  | [] => True
  | (r, T) :: R => RL l w E X M op k h R ∧ ∃ kd, RuC l w E X M T (lyn h R + mk r) (cOn op) kd ∧ (wkd l w E k r T = 0 ∨ kd = wkd l w E k r T)
theorem RuC.fr {T : Tr} {a kd : Nat} {co : Bool} (q : RuC l w E X M T a co kd) (e : ∀ i, a ≤ i → i < a + tln T + 1 → M' i = M i) : RuC l w E X M' T a co kd := by
  have pT := tln_pos T
  obtain ⟨q1, q2, q3, q4⟩ := q
  unfold RuC
  rw [e (a + tln T) (by omega) (by omega), e (a + tln T - 1) (by omega) (by omega)]
  exact ⟨q1.fr (fun i a b => e i a (by omega)), q2, q3, q4⟩
theorem RL.fr : ∀ {R : List (Nat × Tr)}, RL l w E X M op k h R → (∀ i, cdn h R i → M' i = M i) → RL l w E X M' op k h R := by
  intro R
  induction R with
  | nil => intro _ _; trivial
  | cons x R ih =>
    obtain ⟨r, T⟩ := x
    intro q e
    obtain ⟨q1, kd, q2, q3⟩ := q
    exact ⟨ih q1 (fun i z => e i (Or.inr z)), kd, q2.fr (fun i a b => e i (Or.inl ⟨a, b⟩)), q3⟩
/-- the links of a command: nb the branch to come, ns the set to come -/
def LK (l : List Int32) (w : List (Nat × Nat × Nat)) (E : List En) (X : Nat → Nat) (M : Nat → Nat → Int32) (h : Nat) : List (Nat × Tr) → Int32 → Int32 → Prop
  | [], nb, _ => 0 ≤ nb → M h 4 = nb
  | (r, T) :: R, nb, ns => if r = 6 then (M (lyn h R) 0 = nI 32 ∧ M (lyn h R) 2 = nI (lyn h R + 1 + tln T) ∧ M (lyn h R) 3 = ns ∧ M (lyn h R) 4 = nb ∧ M (lyn h R) 1 = nI (kP w (bw T))) ∧ LK l w E X M h R (nI (lyn h R)) (-1)
    else if r = 7 then (M (lyn h R) 0 = nI 33 ∧ M (lyn h R) 2 = nI (X ((fnd l w E (bw T - 3)).getD 0)) ∧ M (lyn h R) 3 = nI (lyn h R + 1 + tln T) ∧ M (lyn h R) 4 = ns ∧ M (lyn h R) 1 = nI (kP w (bw T - 4))) ∧ LK l w E X M h R nb (nI (lyn h R))
    else M h 3 = nI (lyn h R + mk r + tln T) ∧ LK l w E X M h R nb ns
theorem LK.fr : ∀ {R : List (Nat × Tr)} {nb ns : Int32}, LK l w E X M h R nb ns → (∀ i, h ≤ i → i < lyn h R → ¬ cdn h R i → M' i = M i) → LK l w E X M' h R nb ns := by
  intro R
  induction R with
  | nil =>
    intro nb ns q e z
    rw [e h (Nat.le_refl _) (Nat.lt_succ_self h) (fun z => z)]
    exact q z
  | cons x R ih =>
    obtain ⟨r, T⟩ := x
    intro nb ns q e
    have g := lyn_gt h R
    have ey : lyn h ((r, T) :: R) = lyn h R + mk r + tln T + 1 := rfl
    have e' : ∀ i, h ≤ i → i < lyn h R → ¬ cdn h R i → M' i = M i := fun i a b c => e i a (by omega) (fun z => by
      rcases z with z | z
      · omega
      · exact c z)
    unfold LK at q ⊢
    by_cases c6 : r = 6
    · rw [if_pos c6] at q ⊢
      have m : mk r = 1 := by rw [c6]; rfl
      rw [e (lyn h R) (by omega) (by omega) (fun z => by
        rcases z with z | z
        · omega
        · have := cdn_b z; omega)]
      exact ⟨q.1, ih q.2 e'⟩
    rw [if_neg c6] at q ⊢
    by_cases c7 : r = 7
    · rw [if_pos c7] at q ⊢
      have m : mk r = 1 := by rw [c7]; rfl
      rw [e (lyn h R) (by omega) (by omega) (fun z => by
        rcases z with z | z
        · omega
        · have := cdn_b z; omega)]
      exact ⟨q.1, ih q.2 e'⟩
    rw [if_neg c7] at q ⊢
    rw [e h (Nat.le_refl _) (by omega) (fun z => by have := cdn_b z; omega)]
    exact ⟨q.1, ih q.2 e'⟩
/-- the branch to come -/
theorem LK.nb : ∀ {R : List (Nat × Tr)} {nb ns v : Int32}, LK l w E X M h R nb ns → LK l w E X (pat M (brn h R) 4 v) h R v ns := by
  intro R
  induction R with
  | nil => intro nb ns v q z; exact pat_s _ _ _ _
  | cons x R ih =>
    obtain ⟨r, T⟩ := x
    intro nb ns v q
    have g := brn_b h R
    have e2 : brn h ((r, T) :: R) = if r = 6 then lyn h R else brn h R := rfl
    unfold LK at q ⊢
    by_cases c6 : r = 6
    · rw [if_pos c6] at q ⊢
      rw [if_pos c6] at e2
      rw [e2]
      refine ⟨⟨by rw [pat_c _ _ (by decide)]; exact q.1.1, by rw [pat_c _ _ (by decide)]; exact q.1.2.1, by rw [pat_c _ _ (by decide)]; exact q.1.2.2.1, pat_s _ _ _ _, by rw [pat_c _ _ (by decide)]; exact q.1.2.2.2.2⟩, q.2.fr (fun i a b c => pat_o _ _ (by omega))⟩
    rw [if_neg c6] at q e2 ⊢
    rw [e2]
    by_cases c7 : r = 7
    · rw [if_pos c7] at q ⊢
      rw [pat_o _ _ (show lyn h R ≠ brn h R by omega)]
      exact ⟨q.1, ih q.2⟩
    rw [if_neg c7] at q ⊢
    refine ⟨?_, ih q.2⟩
    by_cases c : h = brn h R
    · rw [← c, pat_c _ _ (by decide)]; exact q.1
    · rw [pat_o _ _ c]; exact q.1
/-- the chain of sets -/
theorem LK.ch : ∀ {R : List (Nat × Tr)} {nb ns : Int32} {S : List Nat}, LK l w E X M h R nb ns → Chn n M ns S → lyn h R ≤ n → Ch w op k R → (∃ T R1, R = (6, T) :: R1 ∨ R = (7, T) :: R1) → Chn n M (M (brn h R) 3) ((sns h R).reverse ++ S) := by
  intro R
  induction R with
  | nil => intro nb ns S _ _ _ _ z; obtain ⟨T, R1, z | z⟩ := z <;> cases z
  | cons x R ih =>
    obtain ⟨r, T⟩ := x
    intro nb ns S q hS hn hC z
    have g := lyn_gt h R
    have ey : lyn h ((r, T) :: R) = lyn h R + mk r + tln T + 1 := rfl
    have e2 : brn h ((r, T) :: R) = if r = 6 then lyn h R else brn h R := rfl
    have e3 : sns h ((r, T) :: R) = if r = 7 then lyn h R :: sns h R else [] := rfl
    unfold LK at q
    obtain ⟨T', R1, z⟩ := z
    by_cases c6 : r = 6
    · rw [if_pos c6] at q e2
      rw [if_neg (by omega)] at e3
      rw [e2, e3, q.1.2.2.1]
      exact hS
    rw [if_neg c6] at q e2
    have c7 : r = 7 := by
      rcases z with z | z
      · injection z with z1 z2; injection z1 with z1; exact absurd z1 c6
      · injection z with z1 z2; injection z1 with z1
    rw [if_pos c7] at q e3
    rw [e2, e3, List.reverse_cons, List.append_assoc]
    refine ih q.2 (S := [lyn h R] ++ S) ⟨rfl, by omega, by rw [q.1.2.2.2.1]; exact hS⟩ (by omega) hC.1 ?_
    have hB := hC.2.2.2
    unfold Bg at hB
    have so : ∃ j0, So w R j0 := by
      rcases hB with z | z | z | z | z | ⟨_, _, _, z, _⟩ | ⟨_, _, _, z, _⟩ | ⟨_, _, _, z, _⟩ | ⟨_, _, _, z, _⟩ | ⟨_, _, _, z, _⟩ | ⟨_, j0, z, _⟩
      all_goals first
        | exact ⟨j0, z⟩
        | omega
    obtain ⟨j0, so⟩ := so
    cases R with
    | nil => exact absurd so (by intro z; exact z)
    | cons y R2 =>
      obtain ⟨r2, T2⟩ := y
      rcases so with ⟨z, -⟩ | ⟨z, -⟩
      · exact ⟨T2, R2, Or.inl (by rw [z])⟩
      · exact ⟨T2, R2, Or.inr (by rw [z])⟩
end LKS
