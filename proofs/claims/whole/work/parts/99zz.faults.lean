/-! faults of values; a rule of constants in the checker -/
theorem fra_er {x y : Int64} {f : Nat} (h : fra x y = .inl f) : f = 6 := by
  unfold fra at h
  split at h
  · injection h with h; exact h.symm
  · cases h
theorem rk_er {op f : Nat} {a b c d : Int64} (h : rk op a b c d = .inl f) : f = 6 ∨ f = 7 ∨ f = 8 := by
  unfold rk at h
  split at h
  · exact Or.inl (fra_er h)
  split at h
  · exact Or.inl (fra_er h)
  split at h
  · exact Or.inl (fra_er h)
  split at h
  · split at h
    · injection h with h; omega
    · split at h
      · exact Or.inl (fra_er h)
      · exact Or.inl (fra_er h)
  · split at h
    · injection h with h; omega
    · split at h
      · injection h with h; omega
      · cases h
theorem sbd_e {α β : Type} {x : Rs α} {f : α → Rs β} {e : Nat × Nat} (h : sbd x f = .inl e) : x = .inl e ∨ ∃ a, x = .inr a ∧ f a = .inl e := by
  cases x with
  | inl e' => exact Or.inl (by injection h with h; rw [h])
  | inr a => exact Or.inr ⟨a, rfl, h⟩
theorem vr_er {pl op : Nat} {u v : Int64 × Int64} {e : Nat × Nat} (h : vr pl op u v = .inl e) : e.1 = 6 ∨ e.1 = 7 ∨ e.1 = 8 := by
  unfold vr at h
  split at h
  · cases h
  split at h
  · cases h
  split at h
  · cases h
  cases hr : rk op u.1 u.2 v.1 v.2 with
  | inl f =>
    rw [hr] at h
    injection h with h
    rw [← h]
    exact rk_er hr
  | inr z => rw [hr] at h; cases h
theorem evl_er {l : List Int32} {w : List (Nat × Nat × Nat)} {E : List En} {fv : Nat → Rs (Int64 × Int64)} (hf : ∀ j e, fv j = .inl e → e.1 = 6 ∨ e.1 = 7 ∨ e.1 = 8) : ∀ (T : Tr) (c : Bool) (e : Nat × Nat), evl l w E fv T c = .inl e → e.1 = 6 ∨ e.1 = 7 ∨ e.1 = 8 := by
  intro T
  induction T with
  | leaf k =>
    intro c e h
    unfold evl at h
    split at h
    · cases h
    split at h
    · cases h
    split at h
    · cases h
    exact hf _ e h
  | branch n l' r il ir =>
    intro c e h
    unfold evl at h
    split at h
    · rcases sbd_e h with z | ⟨a, -, z⟩
      · exact ir false e z
      · cases z
    split at h
    · split at h
      · exact il false e h
      · exact ir false e h
    rcases sbd_e h with z | ⟨u, -, z⟩
    · exact il false e z
    split at z
    · split at z
      · exact ir false e z
      · cases z
    split at z
    · split at z
      · cases z
      · exact ir false e z
    split at z
    · exact ir _ e z
    rcases sbd_e z with z | ⟨v, -, z⟩
    · exact ir false e z
    · exact vr_er z
theorem eT_er {l : List Int32} {w : List (Nat × Nat × Nat)} {E : List En} {T : Tr} {kd : Nat} {e : Nat × Nat} (hW : Wf w T) (hk : chk l w E true T = .inr kd) (h : eT l w E T = .inl e) : e.1 = 6 ∨ e.1 = 7 ∨ e.1 = 8 := by
  have ee : eT l w E T = evl l w E (fun j => if (E.getD j eN).2.1 = 1 then fvn l w E (fun _ => 0) j else .inr (0, 0)) T false := evl_cc (fun j _ s1 => by rw [if_pos s1]) T false kd hW hk
  rw [ee] at h
  refine evl_er (fun j e he => ?_) T false e h
  split at he
  · rename_i s1
    rw [fvn_c s1] at he
    cases he
  · cases he
section CR
variable {N t n : Nat} {l : List Int32} {w : List (Nat × Nat × Nat)} {E : List En} {X fs : Nat → Nat}
/-- a rule of constants is worked out, a fault told -/
theorem F69c (ht : t = 4 ∨ t = 20) (hN : 200000 < N) (hSF : SF l w E X fs) (hnv : Nvk l w) (hco : Cok E) {T : Tr} {σ : st_S} {M : Nat → Nat → Int32} {a kd : Nat} (hMF : MF σ t n M l w E X fs) (hun : Unm σ) (hW : Wf w T) (hl : lev T ≤ 6) (hR : RuC l w E X M T a true kd) (hfn : a + tln T < n) : match eT l w E T with
    | .inl er => er.1 ≠ 0 ∧ er.1 < 20 ∧ ∃ σ', F_69 N t (nI (a + tln T)) σ = some (nI er.1, σ') ∧ gI σ' 46 4 = nI er.2 ∧ FK t σ σ'
    | .inr v => okv kd v ∧ ∃ σ' M', F_69 N t (nI (a + tln T)) σ = some (0, σ') ∧ MF σ' t n M' l w E X fs ∧ FM t σ σ' ∧ Unm σ' ∧ (∀ i, (i < a ∨ a + tln T ≤ i) → M' i = M i) ∧ Sta M M' ∧ Va M' (a + tln T - 1) v := by
  obtain ⟨r1, r2, r3, r4, r5, r6, r7, r8⟩ := hR
  have K := F70c (N := N) ht hN hSF hnv hco hMF hun hW hl r2 r1 rfl hfn r4 r7
  cases he : eT l w E T with
  | inl er =>
    rw [he] at K
    dsimp only at K ⊢
    obtain ⟨σ', M', k1, k2, k3, -⟩ := K
    have er3 := eT_er hW r2 he
    refine ⟨by omega, by omega, st_i σ' 46 4 (nI er.2), ?_, by rw [gI_i, if_pos ⟨rfl, rfl⟩], k3.fk.tr (FK.i _ _ (by simp))⟩
    unfold F_69
    rw [k1, ob_some]
    dsimp only
    rw [if_neg (show ¬ nI er.1 = 0 from nik (m := 0) (by omega) (by decide) (by omega)), k2]
    rfl
  | inr v =>
    rw [he] at K
    dsimp only at K ⊢
    obtain ⟨k0, σ', M', k1, k2⟩ := K
    refine ⟨k0, σ', M', ?_, k2⟩
    unfold F_69
    rw [k1, ob_some]
    rfl
/-- .. that must be a whole number -/
theorem F83c (ht : t = 4 ∨ t = 20) (hN : 200000 < N) (hSF : SF l w E X fs) (hnv : Nvk l w) (hco : Cok E) {T : Tr} {σ : st_S} {M : Nat → Nat → Int32} {a : Nat} (hMF : MF σ t n M l w E X fs) (hun : Unm σ) (hW : Wf w T) (hl : lev T ≤ 6) (hR : RuC l w E X M T a true 1) (hfn : a + tln T < n) : match eI l w E T with
    | .inl er => er.1 ≠ 0 ∧ er.1 < 20 ∧ ∃ σ', F_83 N t (nI (a + tln T)) σ = some (nI er.1, σ') ∧ gI σ' 46 4 = nI er.2 ∧ FK t σ σ'
    | .inr v => ∃ σ' M', F_83 N t (nI (a + tln T)) σ = some (0, σ') ∧ MF σ' t n M' l w E X fs ∧ FM t σ σ' ∧ Unm σ' ∧ (∀ i, (i < a ∨ a + tln T ≤ i) → M' i = M i) ∧ Sta M M' ∧ M' (a + tln T - 1) 6 = v := by
  have pT := tln_pos T
  obtain ⟨r1, r2, r3, r4, r5, r6, r7, r8⟩ := hR
  have K := F70c (N := N) ht hN hSF hnv hco hMF hun hW hl r2 r1 rfl hfn r4 r7
  unfold eI
  cases he : eT l w E T with
  | inl er =>
    rw [he] at K
    dsimp only at K
    rw [sbd_l]
    dsimp only
    obtain ⟨σ', M', k1, k2, k3, -⟩ := K
    have er3 := eT_er hW r2 he
    refine ⟨by omega, by omega, st_i σ' 46 4 (nI er.2), ?_, by rw [gI_i, if_pos ⟨rfl, rfl⟩], k3.fk.tr (FK.i _ _ (by simp))⟩
    unfold F_83
    rw [k1, ob_some]
    dsimp only
    rw [if_neg (show ¬ nI er.1 = 0 from nik (m := 0) (by omega) (by decide) (by omega)), k2]
    rfl
  | inr v =>
    rw [he] at K
    dsimp only at K
    rw [sbd_r]
    obtain ⟨k0, σ', M', k1, k2, k3, k4, k5, k6, k7⟩ := K
    obtain ⟨v1, v2, v3⟩ := okv1.mp k0
    have fe := k5 (a + tln T) (Or.inr (Nat.le_refl _))
    have a4 : aB (nI (a + tln T)) (gN σ' (t + 4)) := k2.1.a (c := 2) (by decide) hfn
    have g4 : gE σ' (t + 4) (nI (a + tln T)).toNatClampNeg = nI (a + tln T - 1) := (k2.1.g (c := 2) (by decide) hfn).trans (by rw [fe]; exact r6)
    have a9 : aB (nI (a + tln T - 1)) (gN σ' (t + 9)) := k2.1.a (c := 7) (by decide) (by omega)
    have g9 : gE σ' (t + 9) (nI (a + tln T - 1)).toNatClampNeg = M' (a + tln T - 1) 7 := k2.1.g (c := 7) (by decide) (by omega)
    have a3 : aB (nI (a + tln T)) (gN σ' (t + 3)) := k2.1.a (c := 1) (by decide) hfn
    have g3 : gE σ' (t + 3) (nI (a + tln T)).toNatClampNeg = nI (kP w (bw T)) := (k2.1.g (c := 1) (by decide) hfn).trans (by rw [fe]; exact r5)
    have m7 := (k7.num k0).2
    have i1 : M' (a + tln T - 1) 7 = 1 ↔ v.2 = 1 := by
      rw [← m7]
      constructor
      · intro z; rw [z]; rfl
      · intro z
        have z2 := congrArg Int64.toInt z
        rw [Int32.toInt_toInt64] at z2
        exact Int32.toInt_inj.mp z2
    have f83 : F_83 N t (nI (a + tln T)) σ = if M' (a + tln T - 1) 7 = 1 then some (0, σ') else some (8, st_i σ' 46 4 (nI (kP w (bw T)))) := by
      unfold F_83
      rw [k1, ob_some]
      dsimp only
      rw [if_pos rfl, if_pos a4, g4, if_pos a9, g9]
      by_cases z : M' (a + tln T - 1) 7 = 1
      · rw [if_pos z, if_pos z]
      · rw [if_neg z, if_neg z, if_pos a3, g3]
        rfl
    by_cases z : v.2 = 1
    · rw [if_pos (i1.mpr z)] at f83
      rw [if_pos z]
      exact ⟨σ', M', f83, k2, k3, k4, k5, k6, k7.1⟩
    · rw [if_neg (fun y => z (i1.mp y))] at f83
      rw [if_neg z]
      exact ⟨show (8 : Nat) ≠ 0 by decide, show (8 : Nat) < 20 by decide, _, f83, by rw [gI_i, if_pos ⟨rfl, rfl⟩], k3.fk.tr (FK.i _ _ (by simp))⟩
end CR
