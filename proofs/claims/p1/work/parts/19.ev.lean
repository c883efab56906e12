/-! more fuel does no harm -/
set_option maxHeartbeats 4000000 in
theorem vz_step_mono {P : vz_P} {self self' : vz_Sf} {d y pc : Nat} {lv : vz_L} {st : List Value} {μ : vz_H} {q : vz_O × vz_H} (hs : ∀ d y pc lv st μ q, self d y pc lv st μ = some q → self' d y pc lv st μ = some q) (h : vz_step P self d y pc lv st μ = some q) : vz_step P self' d y pc lv st μ = some q := by
  have hb : ∀ {d y pc lv rest q1}, vz_beh P self d y pc lv rest q1 = some q → vz_beh P self' d y pc lv rest q1 = some q := by
    intro d y pc lv rest q1 h
    unfold vz_beh at h ⊢
    cases hq : q1.1 with
    | inl v => rw [hq] at h; exact hs _ _ _ _ _ _ _ h
    | inr E =>
      rw [hq] at h
      obtain ⟨t, h1, h⟩ := Option.bind_eq_some_iff.mp h
      obtain ⟨h2, h⟩ := vz_b_of h
      refine Option.bind_eq_some_iff.mpr ⟨t, h1, ?_⟩
      rw [h2]
      exact hs _ _ _ _ _ _ _ h
  have hc : ∀ {d y pc lv μ y' As rest}, vz_cal P self d y pc lv μ y' As rest = some q → vz_cal P self' d y pc lv μ y' As rest = some q := by
    intro d y pc lv μ y' As rest h
    unfold vz_cal at h ⊢
    obtain ⟨h1, h⟩ := vz_b_of h
    obtain ⟨h2, h⟩ := vz_b_of h
    obtain ⟨h5, h⟩ := vz_b_of h
    obtain ⟨h6, h⟩ := vz_b_of h
    obtain ⟨j, hj, h⟩ := vz_s_of h
    obtain ⟨q1, h3, h4⟩ := Option.bind_eq_some_iff.mp h
    rw [h1, h2, h5, h6, hj]
    exact Option.bind_eq_some_iff.mpr ⟨q1, hs _ _ _ _ _ _ _ h3, hb (by rw [← hj]; exact h4)⟩
  unfold vz_step at h ⊢
  cases hT : vz_Th P y pc with
  | some E => rw [hT] at h; exact h
  | none =>
    rw [hT] at h
    obtain ⟨⟨i, len⟩, hI, h⟩ := Option.bind_eq_some_iff.mp h
    refine Option.bind_eq_some_iff.mpr ⟨(i, len), hI, ?_⟩
    cases i with
    | invokestatic ix =>
      obtain ⟨h0, k1⟩ := vz_n_of h
      clear h
      have h0 : len = 3 := h0
      subst h0
      obtain ⟨⟨k, y', n⟩, hcl, k2⟩ := Option.bind_eq_some_iff.mp k1
      obtain ⟨h1, k3⟩ := vz_b_of k2
      refine Option.bind_eq_some_iff.mpr ⟨(k, y', n), hcl, ?_⟩
      rw [h1]
      dsimp only at k3
      show (match k with
        | 0 => _
        | 9 => _
        | 5 => _
        | 7 => _
        | _ => _) = _
      split at k3
      · exact hc k3
      · exact hc k3
      · obtain ⟨h4, k4⟩ := vz_b_of k3
        obtain ⟨z, h5, h6⟩ := Option.bind_eq_some_iff.mp k4
        obtain ⟨h7, h8⟩ := vz_b_of h6
        rw [h4]
        refine Option.bind_eq_some_iff.mpr ⟨z, h5, ?_⟩
        rw [h7]
        exact hs _ _ _ _ _ _ _ h8
      · obtain ⟨h4, k4⟩ := vz_b_of k3
        obtain ⟨h5, k5⟩ := vz_b_of k4
        obtain ⟨v, h7, k6⟩ := Option.bind_eq_some_iff.mp k5
        obtain ⟨x, ev, k7⟩ := vz_vi_of k6
        rw [h4, h5]
        refine Option.bind_eq_some_iff.mpr ⟨v, h7, ?_⟩
        rw [ev]
        exact hs _ _ _ _ _ _ _ k7
      · cases k3
    | invokevirtual ix =>
      obtain ⟨h0, k1⟩ := vz_n_of h
      clear h
      have h0 : len = 3 := h0
      subst h0
      obtain ⟨⟨k, y', n⟩, hcl, k2⟩ := Option.bind_eq_some_iff.mp k1
      obtain ⟨h1, k3⟩ := vz_b_of k2
      refine Option.bind_eq_some_iff.mpr ⟨(k, y', n), hcl, ?_⟩
      rw [h1]
      obtain ⟨a, r, er, k4⟩ := vz_r_of k3
      dsimp only at er k4 ⊢
      rw [er]
      show (match k with
        | 1 => _
        | 6 => _
        | _ => _) = _
      split at k4
      · obtain ⟨o, ho, k5⟩ := Option.bind_eq_some_iff.mp k4
        obtain ⟨h3, k6⟩ := vz_b_of k5
        refine Option.bind_eq_some_iff.mpr ⟨o, ho, ?_⟩
        rw [h3]
        exact hc k6
      · obtain ⟨h4, k5⟩ := vz_b_of k4
        obtain ⟨h5, k6⟩ := vz_b_of k5
        obtain ⟨h6, k7⟩ := vz_b_of k6
        obtain ⟨v, h7, k8⟩ := Option.bind_eq_some_iff.mp k7
        obtain ⟨x, ev, k9⟩ := vz_vi_of k8
        rw [h4, h5, h6]
        refine Option.bind_eq_some_iff.mpr ⟨v, h7, ?_⟩
        rw [ev]
        exact hs _ _ _ _ _ _ _ k9
      · cases k4
    | invokespecial ix =>
      obtain ⟨h0, k1⟩ := vz_n_of h
      clear h
      have h0 : len = 3 := h0
      subst h0
      obtain ⟨⟨k, y', n⟩, hcl, k2⟩ := Option.bind_eq_some_iff.mp k1
      obtain ⟨h1, k3⟩ := vz_b_of k2
      refine Option.bind_eq_some_iff.mpr ⟨(k, y', n), hcl, ?_⟩
      rw [h1]
      obtain ⟨a, r, er, k4⟩ := vz_r_of k3
      dsimp only at er k4 ⊢
      rw [er]
      show (match k with
        | 2 => _
        | 3 => _
        | _ => _) = _
      split at k4
      · exact hc k4
      · obtain ⟨h4, k5⟩ := vz_b_of k4
        obtain ⟨h5, k6⟩ := vz_b_of k5
        obtain ⟨j, hj, k7⟩ := vz_s_of k6
        rw [h4, h5]
        subst hj
        exact hs _ _ _ _ _ _ _ k7
      · cases k4
    | ireturn => exact h
    | lreturn => exact h
    | areturn => exact h
    | return_ => exact h
    | _ =>
      obtain ⟨z, h1, h2⟩ := Option.bind_eq_some_iff.mp h
      exact Option.bind_eq_some_iff.mpr ⟨z, h1, hs _ _ _ _ _ _ _ h2⟩
theorem vz_run_mono {P : vz_P} : ∀ (n : Nat) (d y pc : Nat) (lv : vz_L) (st : List Value) (μ : vz_H) (q : vz_O × vz_H), vz_run P n d y pc lv st μ = some q → vz_run P (n + 1) d y pc lv st μ = some q := by
  intro n
  induction n with
  | zero => intro d y pc lv st μ q h; cases h
  | succ n ih => intro d y pc lv st μ q h; exact vz_step_mono ih h
theorem vz_run_more {P : vz_P} {n k : Nat} (hk : n ≤ k) {d y pc : Nat} {lv : vz_L} {st : List Value} {μ : vz_H} {q : vz_O × vz_H} (h : vz_run P n d y pc lv st μ = some q) : vz_run P k d y pc lv st μ = some q := by
  induction hk with
  | refl => exact h
  | step _ ih => exact vz_run_mono _ _ _ _ _ _ _ _ ih
/-- the machine comes to an end, with this answer and this heap -/
def vz_ev (P : vz_P) (d y pc : Nat) (lv : vz_L) (st : List Value) (μ : vz_H) (q : vz_O × vz_H) : Prop := ∃ n, vz_run P n d y pc lv st μ = some q
