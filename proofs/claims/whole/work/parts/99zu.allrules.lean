/-! the class's checker: all rules of an item -/
section AR
variable {N : Nat} {σ : st_S} {t n : Nat} {M : Nat → Nat → Int32} {l : List Int32} {w : List (Nat × Nat × Nat)} {E : List En} {X fs : Nat → Nat} {tge : Int32} {nc : Nat} {hs : Nat → Nat} {h op k : Nat}
theorem rul_s (r : Nat) (T : Tr) (R : List (Nat × Tr)) : rul l w E op k ((r, T) :: R) = match rul l w E op k R with
    | some e => some e
    | none => match ahd l w E R r T with
      | some e => some e
      | none => rck l w E op k r T := rfl
theorem rul_n : ∀ {R : List (Nat × Tr)}, rul l w E op k R = none → brs R ≤ 8 ∧ (sts l w E R).Nodup ∧ ∀ j ∈ sts l w E R, j < E.length ∧ (E.getD j eN).2.1 = 3 := by
  intro R
  induction R with
  | nil => intro _; exact ⟨Nat.zero_le _, List.nodup_nil, fun j hj => by cases hj⟩
  | cons x R ih =>
    obtain ⟨r, T⟩ := x
    intro z
    rw [rul_s] at z
    cases hr : rul l w E op k R with
    | some e => rw [hr] at z; cases z
    | none =>
      rw [hr] at z
      dsimp only at z
      obtain ⟨i1, i2, i3⟩ := ih hr
      have eb : brs ((r, T) :: R) = if r = 6 then brs R + 1 else brs R := rfl
      have es : sts l w E ((r, T) :: R) = if r = 7 then (fnd l w E (bw T - 3)).getD 0 :: sts l w E R else [] := rfl
      have ah : ahd l w E R r T = none := by
        cases ha : ahd l w E R r T with
        | none => rfl
        | some e => rw [ha] at z; cases z
      unfold ahd at ah
      by_cases c6 : r = 6
      · rw [if_pos c6] at ah
        rw [eb, es, if_pos c6, if_neg (by omega)]
        split at ah
        · cases ah
        · exact ⟨by omega, List.nodup_nil, fun j hj => by cases hj⟩
      rw [if_neg c6] at ah
      rw [eb, if_neg c6, es]
      by_cases c7 : r = 7
      · rw [if_pos c7] at ah ⊢
        cases hf : fnd l w E (bw T - 3) with
        | none => rw [hf] at ah; cases ah
        | some j =>
          rw [hf] at ah
          dsimp only at ah
          have lt : j < E.length := (List.findIdx?_eq_some_iff_getElem.mp (show E.findIdx? (fun e => swd l w e.1 (bw T - 3)) = some j from hf)).1
          by_cases s3 : (E.getD j eN).2.1 = 3
          · rw [if_neg (fun y => y s3)] at ah
            split at ah
            · cases ah
            · rename_i cm
              refine ⟨i1, List.nodup_cons.mpr ⟨fun y => cm (List.contains_iff_mem.mpr y), i2⟩, fun j' hj' => ?_⟩
              rcases List.mem_cons.mp hj' with y | y
              · rw [y]; exact ⟨lt, s3⟩
              · exact i3 j' y
          · rw [if_pos s3] at ah; cases ah
      · rw [if_neg c7]
        exact ⟨i1, List.nodup_nil, fun j hj => by cases hj⟩
theorem sns_len : ∀ R : List (Nat × Tr), (sns h R).length = (sts l w E R).length := by
  intro R
  induction R with
  | nil => rfl
  | cons x R ih =>
    obtain ⟨r, T⟩ := x
    have es : sts l w E ((r, T) :: R) = if r = 7 then (fnd l w E (bw T - 3)).getD 0 :: sts l w E R else [] := rfl
    have e3 : sns h ((r, T) :: R) = if r = 7 then lyn h R :: sns h R else [] := rfl
    rw [es, e3]
    split
    · rw [List.length_cons, List.length_cons, ih]
    · rfl
theorem LK.mem : ∀ {R : List (Nat × Tr)} {nb ns : Int32}, LK l w E X M h R nb ns → ∀ x, (∃ s ∈ sns h R, M s 2 = x) ↔ (∃ j ∈ sts l w E R, nI (X j) = x) := by
  intro R
  induction R with
  | nil => intro nb ns _ x; exact ⟨fun ⟨s, z, _⟩ => (by cases z), fun ⟨s, z, _⟩ => (by cases z)⟩
  | cons y R ih =>
    obtain ⟨r, T⟩ := y
    intro nb ns q x
    have es : sts l w E ((r, T) :: R) = if r = 7 then (fnd l w E (bw T - 3)).getD 0 :: sts l w E R else [] := rfl
    have e3 : sns h ((r, T) :: R) = if r = 7 then lyn h R :: sns h R else [] := rfl
    rw [es, e3]
    unfold LK at q
    by_cases c7 : r = 7
    · rw [if_neg (by omega), if_pos c7] at q
      rw [if_pos c7, if_pos c7]
      have I := ih q.2 x
      constructor
      · rintro ⟨s, z, z2⟩
        rcases List.mem_cons.mp z with y | y
        · rw [y, q.1.2.1] at z2
          exact ⟨_, List.mem_cons_self .., z2⟩
        · obtain ⟨j, j1, j2⟩ := I.mp ⟨s, y, z2⟩
          exact ⟨j, List.mem_cons_of_mem _ j1, j2⟩
      · rintro ⟨j, z, z2⟩
        rcases List.mem_cons.mp z with y | y
        · rw [y, ← q.1.2.1] at z2
          exact ⟨_, List.mem_cons_self .., z2⟩
        · obtain ⟨s, j1, j2⟩ := I.mpr ⟨j, y, z2⟩
          exact ⟨s, List.mem_cons_of_mem _ j1, j2⟩
    · rw [if_neg c7, if_neg c7]
      exact ⟨fun ⟨s, z, _⟩ => (by cases z), fun ⟨s, z, _⟩ => (by cases z)⟩
theorem rl_ok (ht : t = 4 ∨ t = 20) (hN : 20000 < N) (hP : Pw l w) (hXi : ∀ i j, i < E.length → j < E.length → (E.getD i eN).2.1 = 3 → (E.getD j eN).2.1 = 3 → X i = X j → i = j) (hI : RI σ t n M l w E X fs tge nc hs h op k []) (h4 : gI σ 46 4 = -1) (hE : EXm M E X fs h) (hop : op < 40) : ∀ (R : List (Nat × Tr)) (n' : Nat), Lay l w M op k h R n' → n' ≤ n → Ch w op k R → match rul l w E op k R with
    | some e => ∃ σ', Sft N t σ (h + 1) (lyn h R - (h + 1)) e.1 σ' ∧ gI σ' 46 4 = nI e.2 ∧ FK t σ σ'
    | none => ∃ σ' M', Sgo N t σ (h + 1) σ' (lyn h R - (h + 1)) ∧ RI σ' t n M' l w E X fs tge nc hs h op k R ∧ (∀ i, (i < h ∨ lyn h R ≤ i) → M' i = M i) ∧ FK t σ σ' ∧ gI σ' 46 4 = -1 := by
  intro R
  induction R with
  | nil =>
    intro n' _ _ _
    refine ⟨σ, M, ?_, hI, fun _ _ => rfl, FK.rf σ, h4⟩
    rw [show lyn h [] - (h + 1) = 0 by show h + 1 - (h + 1) = 0; omega]
    exact Sgo.rf σ
  | cons x R ih =>
    obtain ⟨r, T⟩ := x
    intro n' hL hn hC
    obtain ⟨n1, a1, a2, a3, a4, a5, a6⟩ := hL
    have e1 := a1.lyn
    subst e1
    have ey : lyn h ((r, T) :: R) = lyn h R + mk r + tln T + 1 := rfl
    have g := lyn_gt h R
    have K := ih _ a1 (by omega) hC.1
    rw [rul_s]
    cases hr : rul l w E op k R with
    | some e =>
      rw [hr] at K
      obtain ⟨σ', z1, z2, z3⟩ := K
      exact ⟨σ', z1.mo (by omega), z2, z3⟩
    | none =>
      rw [hr] at K
      obtain ⟨σ1, M1, k1, k2, k3, k4, k9⟩ := K
      dsimp only
      obtain ⟨v1, v2, v3⟩ := rul_n hr
      have E1 : EXm M1 E X fs h := hE.fr (fun i hi => k3 i (by omega))
      have b1 : Mkr w M1 r (lyn h R) (bw T) := a2.fr (k3 _ (by omega))
      have b3 : r = 6 → M1 (lyn h R) 1 = nI (kP w (bw T)) := fun z => by rw [k3 _ (by omega)]; exact a3 z
      have b4 : Co l w M1 T (lyn h R + mk r) := a4.fr (fun i p _ => k3 i (by omega))
      have b5 : Re w M1 (lyn h R + mk r + tln T) (bw T) r (lyn h R + mk r) := a5.fr (k3 _ (by omega))
      have O : RuO N σ1 t n M1 l w E X fs tge nc hs h op k R r T := by
        have r8 := (Ch_op hC).1
        by_cases c0 : r ≤ 4
        · exact ru_0 ht hN hP k2 k9 E1 hop hC c0 (by omega) b4 b5
        by_cases c5 : r = 5
        · subst c5
          exact ru_5 ht hN hP k2 k9 E1 hop hC (by omega) b4 b5
        by_cases c6 : r = 6
        · subst c6
          exact ru_6 ht hN hP k2 k9 E1 hop hC v1 (by omega) b1 (b3 rfl) b4 b5
        have c7 : r = 7 := by omega
        subst c7
        have o31 := (Ch_op hC).2.1 (by decide)
        have SP5 := k2.2.2.1.2.2.2.2.1
        have lk := k2.2.2.2.2.2.2.2.2 o31
        have len : (sns h R).length ≤ 12 := by
          rw [sns_len (l := l) (w := w) (E := E)]
          have := pig 12 ((sts l w E R).map X) (by
            refine List.pairwise_map.mpr (List.Pairwise.imp_of_mem (fun {a b} ha hb hab => ?_) v2)
            exact fun z => hab (hXi a b (v3 a ha).1 (v3 b hb).1 (v3 a ha).2 (v3 b hb).2 z)) (fun x hx => by
            obtain ⟨j, j1, rfl⟩ := List.mem_map.mp hx
            exact (SP5 j (v3 j j1).1 (v3 j j1).2).1)
          rw [List.length_map] at this
          exact this
        refine ru_7 ht hN hP k2 k9 E1 hop hC len (fun j hj hs3 => ?_) (by omega) b1 b4 b5
        have me := LK.mem lk (nI (X j))
        constructor
        · rintro ⟨s, z1, z2⟩
          obtain ⟨j', y1, y2⟩ := me.mp ⟨s, List.mem_reverse.mp z1, z2⟩
          have x1 := (SP5 j' (v3 j' y1).1 (v3 j' y1).2).1
          have x2 := (SP5 j hj hs3).1
          have := hXi j' j (v3 j' y1).1 hj (v3 j' y1).2 hs3 ((nI_eq (by omega) (by omega)).mp y2)
          rw [← this]
          exact List.contains_iff_mem.mpr y1
        · intro z
          obtain ⟨s, y1, y2⟩ := me.mpr ⟨j, List.contains_iff_mem.mp z, rfl⟩
          exact ⟨s, List.mem_reverse.mpr y1, y2⟩
      unfold RuO at O
      have pos : h + 1 + (lyn h R - (h + 1)) = lyn h R := by omega
      have fault : ∀ e : Nat × Nat, (∃ σ', Sft N t σ1 (lyn h R) (mk r + tln T + 1) e.1 σ' ∧ gI σ' 46 4 = nI e.2 ∧ FK t σ1 σ') → ∃ σ', Sft N t σ (h + 1) (lyn h ((r, T) :: R) - (h + 1)) e.1 σ' ∧ gI σ' 46 4 = nI e.2 ∧ FK t σ σ' := fun e O => by
        obtain ⟨σ', z1, z2, z3⟩ := O
        exact ⟨σ', k1.fl (by rw [pos]; exact z1) (by rw [ey]; omega), z2, k4.tr z3⟩
      cases ha : ahd l w E R r T with
      | some e =>
        rw [ha] at O
        exact fault e O
      | none =>
        rw [ha] at O
        dsimp only at O ⊢
        cases hk : rck l w E op k r T with
        | some e =>
          rw [hk] at O
          exact fault e O
        | none =>
          rw [hk] at O
          obtain ⟨σ', M', z1, z2, z3, z4, z5⟩ := O
          exact ⟨σ', M', k1.tr (by rw [pos]; exact z1) (by rw [ey]; omega), z2, fun i hi => by rw [z3 i hi, k3 i (by rw [ey] at hi; omega)], k4.tr z4, z5⟩
end AR
