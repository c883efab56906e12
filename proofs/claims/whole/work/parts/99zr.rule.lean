/-! the class's checker: one rule with its end -/
/-- the nodes that names rest on -/
def EXm (M : Nat → Nat → Int32) (E : List En) (X fs : Nat → Nat) (h : Nat) : Prop := ∀ j, j < E.length →
  ((E.getD j eN).2.1 = 1 ∧ X j < h ∧ M (X j) 5 = nI (kdn (E.getD j eN)) ∧ M (X j) 6 = (E.getD j eN).2.2.2.2.1.1.toInt32 ∧ M (X j) 7 = bl1 (E.getD j eN).2.2.2.2.1.2) ∨
  ((E.getD j eN).2.1 = 2 ∧ X j < 60 ∧ fs j + tln (fTr E j) < h ∧ M (fs j + tln (fTr E j)) 2 = nI (fs j + tln (fTr E j) - 1) ∧ M (fs j + tln (fTr E j) - 1) 5 = nI (kdn (E.getD j eN))) ∨
  (E.getD j eN).2.1 = 3
theorem EXm.fr {M M' : Nat → Nat → Int32} {E : List En} {X fs : Nat → Nat} {h : Nat} (q : EXm M E X fs h) (e : ∀ i, i < h → M' i = M i) : EXm M' E X fs h := by
  intro j hj
  have pj := tln_pos (fTr E j)
  rcases q j hj with ⟨z1, z2, z3⟩ | ⟨z1, z2, z3, z4, z5⟩ | z
  · exact Or.inl ⟨z1, z2, by rw [e _ z2]; exact z3⟩
  · exact Or.inr (Or.inl ⟨z1, z2, z3, by rw [e _ z3]; exact z4, by rw [e _ (by omega)]; exact z5⟩)
  · exact Or.inr (Or.inr z)
theorem EXm.ex {σ : st_S} {t : Nat} {w : List (Nat × Nat × Nat)} {tge : Int32} {nc : Nat} {hs : Nat → Nat} {M : Nat → Nat → Int32} {E : List En} {X fs : Nat → Nat} {h b : Nat} (q : EXm M E X fs h) (s : SP σ t w E X fs tge nc hs) (hb : h ≤ b) : EX σ t M E X b := by
  obtain ⟨-, -, -, -, s5, s6, -⟩ := s
  intro j hj
  have pj := tln_pos (fTr E j)
  rcases q j hj with ⟨z1, z2, z3⟩ | ⟨z1, z2, z3, z4, z5⟩ | z
  · exact Or.inl ⟨z1, by omega, z3⟩
  · exact Or.inr (Or.inl ⟨z1, z2, _, _, s6 j hj z1, by omega, z4, by omega, z5⟩)
  · obtain ⟨y1, -, -, -, y5⟩ := s5 j hj z
    exact Or.inr (Or.inr ⟨z, y1, y5⟩)
theorem FN.g6 {t : Nat} {σ σ' : st_S} (h : FN t σ σ') {k : Nat} (hk : k ≠ 4) : gI σ' 46 k = gI σ 46 k := h.1.1 46 k (by
  simp only [List.mem_cons, List.not_mem_nil, or_false, Prod.mk.injEq]
  omega)
theorem FN.un {t : Nat} {σ σ' : st_S} (ht : t = 4 ∨ t = 20) (h : FN t σ σ') (q : Unm σ) : Unm σ' := by
  unfold Unm
  rw [(h.1.2.2.2.1 44 (by simp only [List.mem_cons, List.not_mem_nil, or_false]; omega)).2, h.1.1 42 5 (by simp)]
  exact q
section RR
variable {N : Nat} {σ : st_S} {t n : Nat} {M : Nat → Nat → Int32} {l : List Int32} {w : List (Nat × Nat × Nat)} {E : List En} {X fs : Nat → Nat} {tge : Int32} {nc : Nat} {hs : Nat → Nat} {h op k : Nat}
/-- what the check of a rule with its end comes to -/
def rck (l : List Int32) (w : List (Nat × Nat × Nat)) (E : List En) (op k r : Nat) (T : Tr) : Option (Nat × Nat) := match chk l w E (cOn op) T with
  | .inl e => some e
  | .inr kd => if wkd l w E k r T = 0 ∨ kd = wkd l w E k r T then none else some (3, kP w (bw T))
theorem wkd_3 (l : List Int32) (w : List (Nat × Nat × Nat)) (E : List En) (k r : Nat) (T : Tr) : wkd l w E k r T < 3 := by
  unfold wkd kdn
  repeat' split
  all_goals omega
theorem ru_mid (ht : t = 4 ∨ t = 20) (hN : 20000 < N) (hP : Pw l w) (q : CS σ t n M) (hw : Wd σ l) (hS : SP σ t w E X fs tge nc hs) (hE : EXm M E X fs h) (h5 : gI σ 46 5 = nI h) (h4 : gI σ 46 4 = -1) (hop : op < 40) (e0 : M h 0 = nI op) {T : Tr} {a r p : Nat} (hr : r < 8) (hW : Wf w T) (hl : lev T ≤ 6) (ha : h < a) (hn : a + tln T < n) (hC : Co l w M T a) (hR : Re w M (a + tln T) (bw T) r a) (h3 : r = 3 → M h 4 = nI (if kK w (k + 3) = 5 then 2 else 1)) (h6 : r = 6 → gI σ 46 10 = nI p) (h7 : r = 7 → gI σ 46 12 = nI p ∧ M p 2 = nI (X ((fnd l w E (bw T - 3)).getD 0)) ∧ (fnd l w E (bw T - 3)).getD 0 < E.length ∧ (E.getD ((fnd l w E (bw T - 3)).getD 0) eN).2.1 = 3) (hp : p < a) : match rck l w E op k r T with
    | some e => ∃ σ', Sft N t σ a (tln T + 1) e.1 σ' ∧ gI σ' 46 4 = nI e.2 ∧ FK t σ σ'
    | none => ∃ σ2 M2 kd, Sgo N t σ a (eff σ2 t r (a + tln T) h p p) (tln T + 1) ∧ CS σ2 t n M2 ∧ FN t σ σ2 ∧ Wd σ2 l ∧ (∀ i, (i < a ∨ a + tln T ≤ i) → M2 i = M i) ∧ RuC l w E X M2 T a (cOn op) kd ∧ (wkd l w E k r T = 0 ∨ kd = wkd l w E k r T) ∧ gI σ2 46 4 = -1 := by
  have pT := tln_pos T
  obtain ⟨r0, r1, r2, r3, r4⟩ := hR
  have cx : CX σ t n M l w E X h op a := ⟨q, hw, hS.1, hE.ex hS (by omega), hS.2.1.2.2.2.1, hS.2.1.2.2.2.2.1, h5, ha, e0, h4⟩
  have K := ckT (N := N) ht hN hP hop (show a ≤ n by omega) T σ M a cx hW hC (Nat.le_refl a) (by omega)
  unfold rck
  cases hk : chk l w E (cOn op) T with
  | inl e =>
    rw [hk] at K
    obtain ⟨σ', M', k1, k2, k3, -⟩ := K
    exact ⟨σ', k1.mo (by omega), k2, k3.fk⟩
  | inr kd =>
    rw [hk] at K
    obtain ⟨σ2, M2, k1, k2, k3, k4, k5, k6, k7⟩ := K
    have kt := k6.root (by omega)
    have kp := k3.kp ht
    have S2 := hS.kp kp
    have fe := k4 (a + tln T) (Or.inr (Nat.le_refl _))
    have fh := k4 h (Or.inl ha)
    have h52 : gI σ2 46 5 = nI h := by rw [k3.g6 (by decide)]; exact h5
    have f86 := F86' (N := N) (r := r) (s := p) (x := X ((fnd l w E (bw T - 3)).getD 0)) (kv := kdn (E.getD ((fnd l w E (bw T - 3)).getD 0) eN)) (kh := if kK w (k + 3) = 5 then 2 else 1) k2.1 hr h52 (by omega) (fun z => by rw [fh]; exact h3 z) (fun z => by
      obtain ⟨y1, y2, y3, y4⟩ := h7 z
      obtain ⟨x1, -, -, -, x5⟩ := S2.2.2.2.2.1 _ y3 y4
      exact ⟨by rw [k3.g6 (by decide)]; exact y1, by omega, by rw [k4 p (Or.inl hp)]; exact y2, x1, S2.2.1.2.2.2.1, x5⟩)
    have R := re_ok (N := N) (i := a + tln T) (r := r) (h := h) (b := p) (s := p) (pl := kP w (bw T)) (kd := kd) (wk := wkd l w E k r T) k2.1 (by omega) (by omega) (by rw [fe]; exact r0) (by rw [fe]; exact r1) (by rw [fe]; exact r2) (by rw [fe]; exact r3) kt k7 (wkd_3 ..) hr h52 (by omega) (fun z => ⟨by rw [k3.g6 (by decide)]; exact h6 z, by omega⟩) (fun z => ⟨by rw [k3.g6 (by decide)]; exact (h7 z).1, by omega⟩) f86
    by_cases c : wkd l w E k r T = 0 ∨ kd = wkd l w E k r T
    · dsimp only
      rw [if_pos c]
      refine ⟨σ2, M2, kd, k1.tr (R.2 c) rfl, k2.1, k3, k2.2.1, k4, ⟨k5, hk, k7, by rw [fe]; exact r0, by rw [fe]; exact r1, by rw [fe]; exact r2, by rw [fe]; exact r4, kt⟩, c, k2.2.2.2.2.2.2.2.2.2⟩
    · dsimp only
      rw [if_neg c]
      obtain ⟨σ', z1, z2, z3⟩ := R.1 c
      exact ⟨σ', k1.fl z1 (Nat.le_refl _), z2, k3.fk.tr z3.fk⟩
theorem Ch_op {R : List (Nat × Tr)} : ∀ {r : Nat} {T : Tr}, Ch w op k ((r, T) :: R) → r < 8 ∧ (5 ≤ r → op = 31) ∧ (1 ≤ r → r ≤ 3 → op = 29) ∧ (r = 4 → op = 30) ∧ (r = 0 → op = 27 ∨ op = 28) ∧ (r = 5 → R = []) ∧ (r = 6 ∨ r = 7 → brs ((r, T) :: R) ≠ 0) ∧ (r = 7 → ∃ T' R1, R = (6, T') :: R1 ∨ R = (7, T') :: R1) ∧ (r ≤ 5 → brs R = 0) := by
  induction R with
  | nil =>
    intro r T hC
    have hB := hC.2.2.2
    have e0 : brs ([] : List (Nat × Tr)) = 0 := rfl
    have e1 : brs ((r, T) :: []) = if r = 6 then brs [] + 1 else brs [] := rfl
    unfold Bg at hB
    have so : ∀ j0, ¬ So w [] j0 := fun _ z => z
    have hr : r < 6 ∧ (5 ≤ r → op = 31) ∧ (1 ≤ r → r ≤ 3 → op = 29) ∧ (r = 4 → op = 30) ∧ (r = 0 → op = 27 ∨ op = 28) := by
      rcases hB with z | z | z | z | z | ⟨_, _, z, _⟩ | ⟨_, _, z, _⟩ | ⟨_, _, z, _⟩ | ⟨_, _, z, _⟩ | ⟨_, _, z, _⟩ | ⟨_, j0, z, _⟩
      all_goals first
        | (have z := z.2; omega)
        | (cases z)
        | (exact absurd z (so j0))
    exact ⟨by omega, by omega, by omega, by omega, by omega, fun _ => rfl, fun z => by omega, fun z => by omega, fun _ => rfl⟩
  | cons y R ih =>
    obtain ⟨r2, T2⟩ := y
    intro r T hC
    obtain ⟨i1, i2, i3, i4, i5, i6, i7, i8, i9⟩ := ih hC.1
    have hB := hC.2.2.2
    have e1 : brs ((r, T) :: (r2, T2) :: R) = if r = 6 then brs ((r2, T2) :: R) + 1 else brs ((r2, T2) :: R) := rfl
    have e2 : brs ((r2, T2) :: R) = if r2 = 6 then brs R + 1 else brs R := rfl
    unfold Bg at hB
    have key : (r = 2 ∧ r2 = 1) ∨ (r = 3 ∧ r2 = 2) ∨ (r = 6 ∧ (r2 = 5 ∨ r2 = 6 ∨ r2 = 7)) ∨ (r = 7 ∧ (r2 = 6 ∨ r2 = 7)) := by
      rcases hB with z | z | z | z | z | ⟨_, _, z, y, _⟩ | ⟨_, _, z, y, _⟩ | ⟨_, _, z, y, _⟩ | ⟨_, _, z, y, _⟩ | ⟨_, _, z, y, _⟩ | ⟨y, j0, z, _⟩
      · exact absurd z.1 (by simp)
      · exact absurd z.1 (by simp)
      · exact absurd z.1 (by simp)
      · exact absurd z.1 (by simp)
      · exact absurd z.1 (by simp)
      · injection z with z1 z2; injection z1 with z1; omega
      · injection z with z1 z2; injection z1 with z1; omega
      · injection z with z1 z2; injection z1 with z1; omega
      · injection z with z1 z2; injection z1 with z1; omega
      · injection z with z1 z2; injection z1 with z1; omega
      · rcases z with ⟨z, -⟩ | ⟨z, -⟩ <;> omega
    refine ⟨by omega, fun z => i2 (by omega), fun z1 z2 => i3 (by omega) (by omega), by omega, by omega, fun z => by omega, fun z => ?_, fun z => ?_, fun z => ?_⟩
    · rw [e1]
      split
      · omega
      · exact i7 (by omega)
    · have : r2 = 6 ∨ r2 = 7 := by omega
      rcases this with y | y
      · exact ⟨T2, R, Or.inl (by rw [y])⟩
      · exact ⟨T2, R, Or.inr (by rw [y])⟩
    · rw [e2, if_neg (by omega)]
      exact i9 (by omega)
theorem brn_0 (h : Nat) : ∀ {R : List (Nat × Tr)}, brs R = 0 → brn h R = h := by
  intro R
  induction R with
  | nil => intro _; rfl
  | cons x R ih =>
    obtain ⟨r, T⟩ := x
    intro z
    have e1 : brs ((r, T) :: R) = if r = 6 then brs R + 1 else brs R := rfl
    have e2 : brn h ((r, T) :: R) = if r = 6 then lyn h R else brn h R := rfl
    rw [e1] at z
    split at z
    · omega
    · rename_i c
      rw [e2, if_neg c]
      exact ih z
end RR
