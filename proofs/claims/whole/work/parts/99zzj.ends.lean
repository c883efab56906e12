/-! the items without their nodes; their faults -/
/-- the items: words up to i -/
def PI (w : List (Nat × Nat × Nat)) : List It → Nat → Prop
  | [], i => i = 0
  | (op, k, R) :: I, i => ∃ e, PI w I k ∧ opw op (kK w k) ∧ Ch w op k R ∧ Fi w op k R e ∧ i = e + 1
theorem IL.pi {l : List Int32} {w : List (Nat × Nat × Nat)} {M : Nat → Nat → Int32} : ∀ {I : List It} {n i : Nat}, IL l w M I n i → PI w I i := by
  intro I
  induction I with
  | nil => intro n i q; exact q.2
  | cons x I ih =>
    obtain ⟨op, k, R⟩ := x
    intro n i q
    obtain ⟨n0, n1, e, q1, q2, q3, q4, q5, q6, q7, q8⟩ := q
    exact ⟨e, ih q1, q2, q3, q5, q8⟩
section ER
variable {l : List Int32} {w : List (Nat × Nat × Nat)} {E : List En} {tg : Option Tr} {C : List It} {op k : Nat} {R : List (Nat × Tr)} {co : Bool}
theorem chk_er : ∀ {T : Tr} {e : Nat × Nat}, chk l w E co T = .inl e → e.1 = 2 ∨ e.1 = 3 := by
  intro T
  induction T with
  | leaf k =>
    intro e h
    unfold chk at h
    split at h
    · cases h
    split at h
    · unfold chn at h
      split at h
      · injection h with h; rw [← h]; exact Or.inl rfl
      · split at h
        · injection h with h; rw [← h]; exact Or.inl rfl
        · cases h
    · cases h
  | branch n l' r il ir =>
    intro e h
    unfold chk at h
    split at h
    · rcases sbd_e h with z | ⟨a, -, z⟩
      · exact ir z
      · unfold ku at z
        split at z
        · cases z
        split at z
        · split at z
          · cases z
          · injection z with z; rw [← z]; exact Or.inr rfl
        · split at z
          · cases z
          · injection z with z; rw [← z]; exact Or.inr rfl
    · rcases sbd_e h with z | ⟨a, -, z⟩
      · exact il z
      rcases sbd_e z with z | ⟨b, -, z⟩
      · exact ir z
      unfold kr at z
      repeat' split at z
      all_goals first
        | (cases z; done)
        | (injection z with z; rw [← z]; exact Or.inr rfl)
theorem hdk_er {e : Nat × Nat} (h : hdk l w E tg C op k = some e) : 2 ≤ e.1 ∧ e.1 ≤ 5 := by
  unfold hdk at h
  repeat' split at h
  all_goals first
    | (cases h; done)
    | (injection h with h; rw [← h]; (refine ⟨?_, ?_⟩ <;> dsimp only <;> omega))
theorem ahd_er {r : Nat} {T : Tr} {e : Nat × Nat} (h : ahd l w E R r T = some e) : 2 ≤ e.1 ∧ e.1 ≤ 5 := by
  unfold ahd at h
  repeat' split at h
  all_goals first
    | (cases h; done)
    | (injection h with h; rw [← h]; (refine ⟨?_, ?_⟩ <;> dsimp only <;> omega))
theorem rck_er {r : Nat} {T : Tr} {e : Nat × Nat} (h : rck l w E op k r T = some e) : 2 ≤ e.1 ∧ e.1 ≤ 5 := by
  unfold rck at h
  cases hc : chk l w E (cOn op) T with
  | inl e' =>
    rw [hc] at h
    injection h with h
    subst h
    have := chk_er hc
    omega
  | inr kd =>
    rw [hc] at h
    dsimp only at h
    split at h
    · cases h
    · injection h with h; rw [← h]; (refine ⟨?_, ?_⟩ <;> dsimp only <;> omega)
theorem rul_er : ∀ {R : List (Nat × Tr)} {e : Nat × Nat}, rul l w E op k R = some e → 2 ≤ e.1 ∧ e.1 ≤ 5 := by
  intro R
  induction R with
  | nil => intro e h; cases h
  | cons x R ih =>
    obtain ⟨r, T⟩ := x
    intro e h
    rw [rul_s] at h
    cases hr : rul l w E op k R with
    | some e' => rw [hr] at h; exact ih (hr.trans h)
    | none =>
      rw [hr] at h
      dsimp only at h
      cases ha : ahd l w E R r T with
      | some e' => rw [ha] at h; exact ahd_er (ha.trans h)
      | none => rw [ha] at h; exact rck_er h
/-- rules that are in order have kinds -/
theorem rul_k : ∀ {R : List (Nat × Tr)}, rul l w E op k R = none → ∀ r T, (r, T) ∈ R → ∃ kd, chk l w E (cOn op) T = .inr kd ∧ (wkd l w E k r T = 0 ∨ kd = wkd l w E k r T) := by
  intro R
  induction R with
  | nil => intro _ r T h; cases h
  | cons x R ih =>
    obtain ⟨r', T'⟩ := x
    intro h r T hm
    rw [rul_s] at h
    cases hr : rul l w E op k R with
    | some e' => rw [hr] at h; cases h
    | none =>
      rw [hr] at h
      dsimp only at h
      cases ha : ahd l w E R r' T' with
      | some e' => rw [ha] at h; cases h
      | none =>
        rw [ha] at h
        dsimp only at h
        rcases List.mem_cons.mp hm with z | z
        · injection z with z1 z2
          subst z1 z2
          unfold rck at h
          cases hc : chk l w E (cOn op) T with
          | inl e' => rw [hc] at h; cases h
          | inr kd =>
            rw [hc] at h
            dsimp only at h
            refine ⟨kd, rfl, ?_⟩
            by_cases c : wkd l w E k r T = 0 ∨ kd = wkd l w E k r T
            · exact c
            · rw [if_neg c] at h; cases h
        · exact ih hr r T z
theorem eI_er {T : Tr} {kd : Nat} {e : Nat × Nat} (hW : Wf w T) (hk : chk l w E true T = .inr kd) (h : eI l w E T = .inl e) : e.1 = 6 ∨ e.1 = 7 ∨ e.1 = 8 := by
  unfold eI at h
  rcases sbd_e h with z | ⟨v, -, z⟩
  · exact eT_er hW hk z
  · split at z
    · cases z
    · injection z with z; rw [← z]; exact Or.inr (Or.inr rfl)
theorem fin_er {x : Tx} {m : Nat} {e : Nat × Nat} (hC : Ch w op k R) (hF : Fi w op k R m) (ho : 27 ≤ op ∧ op ≤ 31) (hr : rul l w x.1 op k R = none) (h : fin l w x op k R = .inl e) : 6 ≤ e.1 ∧ e.1 ≤ 9 := by
  unfold fin at h
  by_cases c27 : op = 27
  · rw [if_pos c27] at h
    subst c27
    obtain ⟨T, rfl⟩ := one_r (r := 0) hC hF (Or.inl rfl) rfl
    obtain ⟨kd, k1, -⟩ := rul_k hr 0 T (List.mem_cons_self ..)
    rcases sbd_e h with z | ⟨v, -, z⟩
    · have := eT_er hC.2.1 k1 z; omega
    · cases z
  rw [if_neg c27] at h
  by_cases c28 : op = 28
  · rw [if_pos c28] at h; cases h
  rw [if_neg c28] at h
  by_cases c29 : op = 29
  · rw [if_pos c29] at h
    subst c29
    rcases sbd_e h with z | ⟨v, -, z⟩
    · unfold rng at z
      by_cases hk5 : kK w (k + 3) = 5
      · rw [if_pos hk5] at z
        rcases one_b hC hk5 with rfl | ⟨T, rfl⟩
        · cases z
        · obtain ⟨kd, k1, -⟩ := rul_k hr 3 T (List.mem_cons_self ..)
          rcases sbd_e z with z | ⟨v, -, z⟩
          · have := eT_er hC.2.1 k1 z; omega
          · cases z
      · rw [if_neg hk5] at z
        rcases one_i hC hF hk5 with ⟨Th, Tl, rfl⟩ | ⟨Tb, Th, Tl, rfl⟩
        · obtain ⟨kh, k1, -⟩ := rul_k hr 2 Th (by simp)
          obtain ⟨kl, k2, -⟩ := rul_k hr 1 Tl (by simp)
          rcases sbd_e z with z | ⟨v, -, z⟩
          · have := eI_er hC.1.2.1 k2 z; omega
          rcases sbd_e z with z | ⟨v', -, z⟩
          · have := eI_er hC.2.1 k1 z; omega
          split at z
          · injection z with z; rw [← z]; (refine ⟨?_, ?_⟩ <;> dsimp only <;> omega)
          · cases z
        · obtain ⟨kb, k0, -⟩ := rul_k hr 3 Tb (by simp)
          obtain ⟨kh, k1, -⟩ := rul_k hr 2 Th (by simp)
          obtain ⟨kl, k2, -⟩ := rul_k hr 1 Tl (by simp)
          rcases sbd_e z with z | ⟨v, -, z⟩
          · have := eI_er hC.1.1.2.1 k2 z; omega
          rcases sbd_e z with z | ⟨v', -, z⟩
          · have := eI_er hC.1.2.1 k1 z; omega
          split at z
          · injection z with z; rw [← z]; (refine ⟨?_, ?_⟩ <;> dsimp only <;> omega)
          rcases sbd_e z with z | ⟨v'', -, z⟩
          · have := eI_er hC.2.1 k0 z; omega
          split at z
          · injection z with z; rw [← z]; (refine ⟨?_, ?_⟩ <;> dsimp only <;> omega)
          · cases z
    · cases z
  rw [if_neg c29] at h
  split at h <;> cases h
theorem itA_er : ∀ {I : List It} {i : Nat} {e : Nat × Nat}, PI w I i → itA l w I = .inl e → 2 ≤ e.1 ∧ e.1 ≤ 9 := by
  intro I
  induction I with
  | nil => intro i e _ h; cases h
  | cons y I ih =>
    obtain ⟨op, k, R⟩ := y
    intro i e q h
    obtain ⟨m, q1, q2, q3, q4, q5⟩ := q
    have ho : 27 ≤ op ∧ op ≤ 31 := by unfold opw at q2; omega
    have es : itA l w ((op, k, R) :: I) = sbd (itA l w I) fun x => itk l w x op k R := rfl
    rw [es] at h
    rcases sbd_e h with z | ⟨x, -, z⟩
    · exact ih q1 z
    · unfold itk at z
      cases hd : hdk l w x.1 x.2.1 x.2.2 op k with
      | some e' =>
        rw [hd] at z
        injection z with z
        subst z
        have := hdk_er hd
        omega
      | none =>
        rw [hd] at z
        dsimp only at z
        cases hr : rul l w x.1 op k R with
        | some e' =>
          rw [hr] at z
          injection z with z
          subst z
          have := rul_er hr
          omega
        | none =>
          rw [hr] at z
          have := fin_er q3 q4 ho hr z
          omega
theorem txt_er {I : List It} {i m : Nat} {e : Nat × Nat} (q : PI w I i) (h : txt l w I m = .inl e) : 2 ≤ e.1 ∧ e.1 ≤ 10 := by
  unfold txt at h
  rcases sbd_e h with z | ⟨x, -, z⟩
  · have := itA_er q z; omega
  · split at z
    · injection z with z; rw [← z]; (refine ⟨?_, ?_⟩ <;> dsimp only <;> omega)
    · cases z
end ER
