/-! the class's checker: a var that is a number -/
section VI
variable {N : Nat} {σ : st_S} {t n : Nat} {M : Nat → Nat → Int32} {l : List Int32} {w : List (Nat × Nat × Nat)} {X fs : Nat → Nat} {tge : Int32} {hs : Nat → Nat} {h k : Nat} {R : List (Nat × Tr)} {E : List En} {tg : Option Tr} {C : List It}
theorem one_1 {T : Tr} (hC : Ch w 29 k ((1, T) :: R)) : R = [] := by
  have hB := hC.2.2.2
  unfold Bg at hB
  rcases hB with z | z | z | z | z | ⟨_, _, _, z, _⟩ | ⟨_, _, _, z, _⟩ | ⟨_, _, _, z, _⟩ | ⟨_, _, _, z, _⟩ | ⟨_, _, _, z, _⟩ | ⟨z, _⟩
  all_goals first
    | exact z.1
    | omega
theorem one_2 {T : Tr} (hC : Ch w 29 k ((2, T) :: R)) : ∃ Tl, R = [(1, Tl)] := by
  have hB := hC.2.2.2
  have hC1 := hC.1
  unfold Bg at hB
  rcases hB with z | z | z | z | z | ⟨T1, R1, z, _⟩ | ⟨_, _, _, z, _⟩ | ⟨_, _, _, z, _⟩ | ⟨_, _, _, z, _⟩ | ⟨_, _, _, z, _⟩ | ⟨z, _⟩
  · have := z.2.2.1; omega
  · have := z.2.2.1; omega
  · have := z.2.2.1; omega
  · have := z.2.2.1; omega
  · have := z.2.2.1; omega
  · subst z
    exact ⟨T1, by rw [one_1 hC1]⟩
  all_goals omega
theorem one_3 {T : Tr} (hk5 : kK w (k + 3) ≠ 5) (hC : Ch w 29 k ((3, T) :: R)) : ∃ Th Tl, R = [(2, Th), (1, Tl)] := by
  have hB := hC.2.2.2
  have hC1 := hC.1
  unfold Bg at hB
  rcases hB with z | z | z | z | z | ⟨_, _, _, z, _⟩ | ⟨T1, R1, z, _⟩ | ⟨_, _, _, z, _⟩ | ⟨_, _, _, z, _⟩ | ⟨_, _, _, z, _⟩ | ⟨z, _⟩
  · have := z.2.2.1; omega
  · have := z.2.2.1; omega
  · exact absurd z.2.2.2.2.2.2.1 hk5
  · have := z.2.2.1; omega
  · have := z.2.2.1; omega
  · omega
  · subst z
    obtain ⟨Tl, rfl⟩ := one_2 hC1
    exact ⟨T1, Tl, rfl⟩
  all_goals omega
/-- the rules of a number -/
theorem one_i {m : Nat} (hC : Ch w 29 k R) (hF : Fi w 29 k R m) (hk5 : kK w (k + 3) ≠ 5) : (∃ Th Tl, R = [(2, Th), (1, Tl)]) ∨ ∃ Tb Th Tl, R = [(3, Tb), (2, Th), (1, Tl)] := by
  obtain ⟨-, ⟨-, -, -, -, z, -⟩ | ⟨r, T, R1, rfl, q⟩⟩ := hF
  · exact absurd z hk5
  · obtain ⟨o1, o2, o3, o4, o5, -⟩ := Ch_op hC
    have r23 : r = 2 ∨ r = 3 := by
      rcases q with ⟨z | z | z | z, -⟩ | ⟨z, -⟩ | ⟨z, -⟩
      · have := o5 z; omega
      · exact Or.inl z
      · exact Or.inr z
      · have := o4 z; omega
      · have := o2 (by omega); omega
      · have := o2 (by omega); omega
    rcases r23 with rfl | rfl
    · obtain ⟨Tl, rfl⟩ := one_2 hC
      exact Or.inl ⟨T, Tl, rfl⟩
    · obtain ⟨Th, Tl, rfl⟩ := one_3 hk5 hC
      exact Or.inr ⟨T, Th, Tl, rfl⟩
/-- first and last are worked out -/
theorem F82a (ht : t = 4 ∨ t = 20) (hN : 200000 < N) (hSF : SF l w E X fs) (hnv : Nvk l w) (hco : Cok E) {Tl Th : Tr} {al ah : Nat} (hMF : MF σ t n M l w E X fs) (hun : Unm σ) (hWl : Wf w Tl) (hll : lev Tl ≤ 6) (hRl : RuC l w E X M Tl al true 1) (hWh : Wf w Th) (hlh : lev Th ≤ 6) (hRh : RuC l w E X M Th ah true 1) (hal : al + tln Tl < ah) (hfn : ah + tln Th < n) (h7 : gI σ 46 7 = nI (al + tln Tl)) (h8 : gI σ 46 8 = nI (ah + tln Th)) : match (sbd (eI l w E Tl) fun lo => sbd (eI l w E Th) fun hi => (.inr (lo, hi) : Rs (Int32 × Int32))) with
    | .inl er => er.1 ≠ 0 ∧ er.1 < 20 ∧ ∃ σ', F_82 N t σ = some (nI er.1, σ') ∧ gI σ' 46 4 = nI er.2 ∧ FK t σ σ'
    | .inr v => ∃ σ' M', F_82 N t σ = J_82_22 N t 0 σ' ∧ MF σ' t n M' l w E X fs ∧ FM t σ σ' ∧ Unm σ' ∧ (∀ i, (i < al ∨ ah + tln Th ≤ i) → M' i = M i) ∧ Sta M M' ∧ M' (al + tln Tl - 1) 6 = v.1 ∧ M' (ah + tln Th - 1) 6 = v.2 := by
  have pl := tln_pos Tl
  have ph := tln_pos Th
  have K := F83c (N := N) ht hN hSF hnv hco hMF hun hWl hll hRl (by omega)
  cases he : eI l w E Tl with
  | inl er =>
    rw [he] at K
    dsimp only at K
    rw [sbd_l]
    dsimp only
    obtain ⟨k1, k2, σ1, k3, k4, k5⟩ := K
    refine ⟨k1, k2, σ1, ?_, k4, k5⟩
    unfold F_82
    rw [h7, k3, ob_some]
    dsimp only
    have nz : ¬ nI er.1 = 0 := nik (m := 0) (by omega) (by decide) k1
    rw [if_neg nz]
    unfold J_82_22
    rw [if_neg nz]
  | inr lo =>
    rw [he] at K
    dsimp only at K
    rw [sbd_r]
    obtain ⟨σ1, M1, k1, k2, k3, k4, k5, k6, k7⟩ := K
    have K2 := F83c (N := N) ht hN hSF hnv hco k2 k4 hWh hlh (hRh.fr (fun i z _ => k5 i (by omega))) hfn
    cases he2 : eI l w E Th with
    | inl er =>
      rw [he2] at K2
      dsimp only at K2
      rw [sbd_l]
      dsimp only
      obtain ⟨j1, j2, σ2, j3, j4, j5⟩ := K2
      refine ⟨j1, j2, σ2, ?_, j4, k3.fk.tr j5⟩
      unfold F_82
      rw [h7, k1, ob_some]
      dsimp only
      rw [if_pos rfl, k3.g46, h8, j3, ob_some]
      dsimp only
      have nz : ¬ nI er.1 = 0 := nik (m := 0) (by omega) (by decide) j1
      unfold J_82_22
      rw [if_neg nz]
    | inr hi =>
      rw [he2] at K2
      dsimp only at K2
      rw [sbd_r]
      dsimp only
      obtain ⟨σ2, M2, j1, j2, j3, j4, j5, j6, j7⟩ := K2
      refine ⟨σ2, M2, ?_, j2, k3.tr j3, j4, fun i hi => by rw [j5 i (by omega), k5 i (by omega)], k6.tr j6, by rw [j5 _ (Or.inl (by omega))]; exact k7, j7⟩
      unfold F_82
      rw [h7, k1, ob_some]
      dsimp only
      rw [if_pos rfl, k3.g46, h8, j1, ob_some]
end VI
