/-! the reference finds the end of an item -/
def PtE (w : List (Nat × Nat × Nat)) (k p d : Nat) : Prop := ∃ a : Int, Pt w 34 0 (p - k) (k, 0, 0) (p, d, a) ∧ a ≤ 0 ∧ -((p - k : Nat) : Int) ≤ a ∧ k ≤ p
section PE
variable {w : List (Nat × Nat × Nat)} {k p d op e : Nat}
theorem PtE.st : PtE w k k 0 := ⟨0, by rw [Nat.sub_self]; exact ⟨rfl, Nat.le_refl _⟩, by omega, by omega, Nat.le_refl _⟩
theorem PtE.ad {p' d' m : Nat} {a : Int} (h1 : Pt w 34 0 (p - k) (k, 0, 0) (p, d, a)) {a' : Int} (h2 : Pt w 34 0 m (p, d, a) (p', d', a')) (hp : p' = p + m) (hk : k ≤ p) (ha : a' ≤ 0) (hb : -((p' - k : Nat) : Int) ≤ a') : PtE w k p' d' := by
  refine ⟨a', ?_, ha, hb, by omega⟩
  rw [show p' - k = p - k + m by omega]
  exact h1.tr h2
theorem PtE.o (h : PtE w k p d) (h0 : kK w p ≠ 0 ∧ kK w p ≠ 34 ∧ kK w p ≠ 32 ∧ kK w p ≠ 33 ∧ kK w p ≠ 36 ∧ kK w p ≠ 37) : PtE w k (p + 1) d := by
  obtain ⟨a, h1, h2, h3, h4⟩ := h
  exact PtE.ad h1 (pt_o (Nat.zero_le _) h0.1 h0.2.1 h0.2.2) rfl h4 h2 (by omega)
theorem PtE.c (h : PtE w k p 0) (h0 : kK w p = 33) : PtE w k (p + 1) 0 := by
  obtain ⟨a, h1, h2, h3, h4⟩ := h
  have q := pt_33 (w := w) (so := 34) (fl := 0) (k := p) (d := 0) (a := a - 1) (Nat.le_refl _) (fun z => absurd z (by decide)) h0
  rw [if_pos rfl, Int.sub_add_cancel] at q
  exact PtE.ad h1 q rfl h4 (by omega) (by omega)
theorem PtE.bo (h : PtE w k p d) (h0 : kK w p = 36) : PtE w k (p + 1) (d + 1) := by
  obtain ⟨a, h1, h2, h3, h4⟩ := h
  exact PtE.ad h1 (pt_36 (Nat.zero_le _) (by decide) h0) rfl h4 h2 (by omega)
theorem PtE.cl (h : PtE w k p (d + 1)) (h0 : kK w p = 37) : PtE w k (p + 1) d := by
  obtain ⟨a, h1, h2, h3, h4⟩ := h
  exact PtE.ad h1 (pt_37 (Nat.zero_le _) (by decide) h0) rfl h4 h2 (by omega)
theorem PtE.t {T : Tr} (hw : Wf w T) (h6 : lev T ≤ 6) (h : PtE w k (bw T) d) : PtE w k (ew T) d := by
  obtain ⟨a, h1, h2, h3, h4⟩ := h
  have := hw.wd.1
  exact PtE.ad h1 (tr_p (Or.inl rfl) hw (by omega) d a (Nat.zero_le _) (fun z => absurd z (by decide))) (by omega) h4 h2 (by omega)
theorem PtE.o' {q : Nat} (h : PtE w k p d) (hq : kK w p = q) (h0 : q ≠ 0 ∧ q ≠ 34 ∧ q ≠ 32 ∧ q ≠ 33 ∧ q ≠ 36 ∧ q ≠ 37) : PtE w k (p + 1) d := h.o (by rw [hq]; exact h0)
/-- up to the latest rule -/
theorem it_sc (ho : opw op (kK w k)) : ∀ {R : List (Nat × Tr)} {r : Nat} {T : Tr}, Ch w op k ((r, T) :: R) → PtE w k (ew T) (if r = 7 then 1 else 0) := by
  have hk : kK w k ≠ 0 ∧ kK w k ≠ 34 ∧ kK w k ≠ 32 ∧ kK w k ≠ 33 ∧ kK w k ≠ 36 ∧ kK w k ≠ 37 := by unfold opw at ho; omega
  have p1 : PtE w k (k + 1) 0 := PtE.st.o hk
  intro R
  induction R with
  | nil =>
    intro r T h
    obtain ⟨-, hw, h6, hB⟩ := h
    rcases hB with ⟨-, h1, h2, h3, h4, h5⟩ | ⟨-, h1, h2, h3, h4, h5, h7⟩ | ⟨-, h1, h2, h3, h4, h5, h7, h8⟩ | ⟨-, h1, h2, h3⟩ | ⟨-, h1, h2, h3⟩ | ⟨T', R1, h1, -⟩ | ⟨T', R1, h1, -⟩ | ⟨T', R1, h1, -⟩ | ⟨T', R1, h1, -⟩ | ⟨T', R1, h1, -⟩ | ⟨-, j0, h1, -⟩
    · rw [if_neg (by omega)]
      have := (p1.o' h4 (by decide)).o' h5 (by decide)
      exact PtE.t hw h6 (by rw [h3]; exact this)
    · rw [if_neg (by omega)]
      have := (p1.o' h4 (by decide)).c h5
      exact PtE.t hw h6 (by rw [h3]; exact this)
    · rw [if_neg (by omega)]
      have := (((p1.o' h4 (by decide)).c h5).o' h7 (by decide)).o' h8 (by decide)
      exact PtE.t hw h6 (by rw [h3]; exact this)
    · rw [if_neg (by omega)]
      exact PtE.t hw h6 (by rw [h3]; exact p1)
    · rw [if_neg (by omega)]
      exact PtE.t hw h6 (by rw [h3]; exact p1)
    · cases h1
    · cases h1
    · cases h1
    · cases h1
    · cases h1
    · exact absurd h1 (fun z => z)
  | cons y R ih =>
    obtain ⟨r', T'⟩ := y
    intro r T h
    obtain ⟨hC, hw, h6, hB⟩ := h
    have q := ih hC
    rcases hB with ⟨h1, -⟩ | ⟨h1, -⟩ | ⟨h1, -⟩ | ⟨h1, -⟩ | ⟨h1, -⟩ | ⟨T1, R1, h1, h2, h3, h4⟩ | ⟨T1, R1, h1, h2, h3, h4⟩ | ⟨T1, R1, h1, h2, h3, h4⟩ | ⟨T1, R1, h1, h2, h3, h4, h5, h7⟩ | ⟨T1, R1, h1, h2, h3, h4, h5⟩ | ⟨h2, j0, h1, h3, h4, h5, h7, h8⟩
    · cases h1
    · cases h1
    · cases h1
    · cases h1
    · cases h1
    · injection h1 with h1
      injection h1 with h1 h1'
      subst h1 h1'
      rw [if_neg (by omega)] at q ⊢
      exact PtE.t hw h6 (by rw [h4]; exact q.o' h3 (by decide))
    · injection h1 with h1
      injection h1 with h1 h1'
      subst h1 h1'
      rw [if_neg (by omega)] at q ⊢
      exact PtE.t hw h6 (by rw [h4]; exact q.o' h3 (by decide))
    · injection h1 with h1
      injection h1 with h1 h1'
      subst h1 h1'
      rw [if_neg (by omega)] at q ⊢
      exact PtE.t hw h6 (by rw [h4]; exact q.o' h3 (by decide))
    · injection h1 with h1
      injection h1 with h1 h1'
      subst h1 h1'
      rw [if_neg (by omega)] at q ⊢
      exact PtE.t hw h6 (by rw [h7]; exact ((q.c h3).o' h4 (by decide)).o' h5 (by decide))
    · injection h1 with h1
      injection h1 with h1 h1'
      subst h1 h1'
      rw [if_pos rfl] at q
      rw [if_neg (by omega)]
      exact PtE.t hw h6 (by rw [h5]; exact (PtE.cl (d := 0) q h3).o' h4 (by decide))
    · have at0 : PtE w k j0 0 := by
        rcases h1 with ⟨z1, z2, z3⟩ | ⟨z1, z2, z3, z4⟩
        · rw [if_neg (by omega)] at q
          rw [z3]
          exact q.c z2
        · rw [if_pos z1] at q
          rw [z4]
          exact (PtE.cl (d := 0) q z2).o' z3 (by decide)
      rw [if_pos h2]
      exact PtE.t hw h6 (by rw [h8]; exact (((at0.bo h3).o' h4 (by decide)).o' h5 (by decide)).o' h7 (by decide))
/-- up to the end -/
theorem it_end (ho : opw op (kK w k)) {R : List (Nat × Tr)} (hC : Ch w op k R) (hF : Fi w op k R e) : PtE w k e 0 ∧ kK w e = 34 := by
  have hk : kK w k ≠ 0 ∧ kK w k ≠ 34 ∧ kK w k ≠ 32 ∧ kK w k ≠ 33 ∧ kK w k ≠ 36 ∧ kK w k ≠ 37 := by unfold opw at ho; omega
  obtain ⟨h34, hF⟩ := hF
  refine ⟨?_, h34⟩
  rcases hF with ⟨-, -, h1, h2, h3, h4⟩ | ⟨r, T, R1, rfl, hF⟩
  · rw [h4]
    exact (((PtE.st.o hk).o' h1 (by decide)).c h2).o' h3 (by decide)
  · have q := it_sc ho hC
    rcases hF with ⟨h1, h2⟩ | ⟨h1, h2, h3, h4⟩ | ⟨h1, h2, h3⟩
    · rw [if_neg (by omega)] at q
      rw [h2]
      exact q
    · rw [if_neg (by omega)] at q
      rw [h4]
      exact (q.c h2).o' h3 (by decide)
    · rw [if_pos h1] at q
      rw [h3]
      exact PtE.cl (d := 0) q h2
theorem it_u {N : Nat} {σ : st_S} (hN : 50000 < N) (h : W3 σ w) (h4 : K40 w) (hl : w.length ≤ 16400) (ho : opw op (kK w k)) {R : List (Nat × Tr)} (hC : Ch w op k R) (hF : Fi w op k R e) : F_163 N (nI k) (nI 34) σ = some (nI e, σ) ∧ k ≤ e ∧ e < w.length := by
  obtain ⟨⟨a, h1, h2, h3, h4'⟩, h34⟩ := it_end ho hC hF
  have el : e < w.length := kK_lt (by omega)
  exact ⟨F163 h h4 (by decide) (by decide) hN (by omega) h1 h2 (by omega) h34, h4', el⟩
end PE
