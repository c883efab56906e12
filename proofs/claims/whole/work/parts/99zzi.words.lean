/-! the words of a tape: their places, numbers -/
theorem ws_tk {l : List Int32} : ∀ (f s : Nat), s ≤ l.length → l.length ≤ s + f → ∀ q ∈ ws l f s, q.2.1 ≤ l.length ∧ q.1 = (tk l q.2.1).1 ∧ q.2.2 = (tk l q.2.1).2 := by
  have fin : ∀ s, s ≤ l.length → l.length ≤ s → ∀ q ∈ [(0, s, s)], q.2.1 ≤ l.length ∧ q.1 = (tk l q.2.1).1 ∧ q.2.2 = (tk l q.2.1).2 := by
    intro s h1 h2 q hq
    have : q = (0, s, s) := by simpa using hq
    subst this
    have e : tk l s = (0, s) := if_pos h2
    dsimp only
    rw [e]
    exact ⟨h1, rfl, rfl⟩
  intro f
  induction f with
  | zero => intro s h1 h2 q hq; exact fin s h1 (by omega) q hq
  | succ f ih =>
    intro s h1 h2 q hq
    by_cases c : l.length ≤ s
    · have eu : ws l (f + 1) s = [(0, s, s)] := if_pos c
      rw [eu] at hq
      exact fin s h1 c q hq
    · have eu : ws l (f + 1) s = ((tk l s).1, s, (tk l s).2) :: (if (tk l s).1 = 39 then [] else ws l f (skp l (tk l s).2)) := if_neg c
      rw [eu] at hq
      rcases List.mem_cons.mp hq with z | z
      · subst z
        exact ⟨h1, rfl, rfl⟩
      · by_cases d : (tk l s).1 = 39
        · rw [if_pos d] at z; cases z
        · rw [if_neg d] at z
          obtain ⟨t1, t2⟩ := tk_in (l := l) (s := s) (by omega)
          have s1 : (tk l s).2 ≤ skp l (tk l s).2 := sk_le l l.length false _
          have s2 : skp l (tk l s).2 ≤ l.length := sk_top l _ _ _ t2
          exact ih _ s2 (by omega) q z
theorem wds_tk {l : List Int32} : ∀ q ∈ wds l, q.2.1 ≤ l.length ∧ q.1 = (tk l q.2.1).1 ∧ q.2.2 = (tk l q.2.1).2 := by
  have s2 : skp l 0 ≤ l.length := sk_top l _ _ _ (Nat.zero_le _)
  exact ws_tk l.length (skp l 0) s2 (by omega)
theorem wds_at (l : List Int32) (i : Nat) : (wds l).getD i (0, 0, 0) ∈ wds l ∨ (wds l).getD i (0, 0, 0) = (0, 0, 0) := by
  rw [List.getD_eq_getElem?_getD]
  cases h : (wds l)[i]? with
  | none => exact Or.inr rfl
  | some q => exact Or.inl (List.mem_of_getElem? h)
theorem wds_Pw {l : List Int32} (hl : l.length ≤ 16384) : Pw l (wds l) := by
  refine ⟨hl, fun k => ?_⟩
  unfold kP kE
  rcases wds_at l k with h | h
  · obtain ⟨h1, h2, h3⟩ := wds_tk _ h
    rw [h3]
    by_cases c : ((wds l).getD k (0, 0, 0)).2.1 < l.length
    · obtain ⟨t1, t2⟩ := tk_in c
      exact ⟨by omega, t2⟩
    · have e : tk l ((wds l).getD k (0, 0, 0)).2.1 = (0, ((wds l).getD k (0, 0, 0)).2.1) := if_pos (by omega)
      rw [e]
      exact ⟨Nat.le_refl _, h1⟩
  · rw [h]; exact ⟨Nat.le_refl _, Nat.zero_le _⟩
theorem wds_Pl {l : List Int32} (hl : l.length ≤ 16384) : Pl (wds l) := fun i => by
  have := (wds_Pw hl).2 i
  omega
/-- the word that ends the tape -/
theorem wds_end {l : List Int32} {m : Nat} (h : kK (wds l) m = 0) (hm : m < (wds l).length) : kP (wds l) m = l.length := by
  unfold kK at h
  unfold kP
  have hin : (wds l).getD m (0, 0, 0) ∈ wds l := by
    rw [List.getD_eq_getElem?_getD, List.getElem?_eq_getElem hm]
    exact List.getElem_mem hm
  obtain ⟨h1, h2, h3⟩ := wds_tk _ hin
  rw [h] at h2
  have := (tk_fin l _).mp h2.symm
  omega
theorem nv_b {l : List Int32} : ∀ (f i : Nat) (v : Int32) (k : Nat), rn isDi l f i - i + k ≤ 9 → 0 ≤ v.toInt → v.toInt < (10 : Int) ^ k → 0 ≤ (nv l f i v).toInt ∧ (nv l f i v).toInt < 1000000000 := by
  have p9 : ∀ k : Nat, k ≤ 9 → (10 : Int) ^ k ≤ 1000000000 := by
    intro k hk
    have : k = 0 ∨ k = 1 ∨ k = 2 ∨ k = 3 ∨ k = 4 ∨ k = 5 ∨ k = 6 ∨ k = 7 ∨ k = 8 ∨ k = 9 := by omega
    rcases this with rfl | rfl | rfl | rfl | rfl | rfl | rfl | rfl | rfl | rfl <;> decide
  intro f
  induction f with
  | zero =>
    intro i v k h h0 h1
    have := p9 k (by omega)
    exact ⟨h0, by show v.toInt < _; omega⟩
  | succ f ih =>
    intro i v k h h0 h1
    have e1 : rn isDi l (f + 1) i = if isDi (ch l i) then rn isDi l f (i + 1) else i := rfl
    have e2 : nv l (f + 1) i v = if isDi (ch l i) then nv l f (i + 1) (v * 10 + ch l i - 48) else v := rfl
    rw [e2]
    by_cases c : isDi (ch l i) = true
    · rw [if_pos c] at e1 ⊢
      have := (rn_le isDi l f (i + 1)).1
      have hk : k + 1 ≤ 9 := by omega
      have q9 := p9 (k + 1) hk
      have es : (10 : Int) ^ (k + 1) = 10 ^ k * 10 := Int.pow_succ 10 k
      have c' := c
      simp only [isDi, Bool.and_eq_true, decide_eq_true_eq, Int32.le_iff_toInt_le] at c'
      have d48 : (48 : Int32).toInt = 48 := by decide
      have d57 : (57 : Int32).toInt = 57 := by decide
      have d10 : (10 : Int32).toInt = 10 := by decide
      rw [d48, d57] at c'
      have m1 : (v * 10).toInt = v.toInt * 10 := by
        rw [Int32.toInt_mul, d10]
        exact Int.bmod_eq_of_le (by omega) (by omega)
      have m2 : (v * 10 + ch l i).toInt = v.toInt * 10 + (ch l i).toInt := by
        rw [Int32.toInt_add, m1]
        exact Int.bmod_eq_of_le (by omega) (by omega)
      have m3 : (v * 10 + ch l i - 48).toInt = v.toInt * 10 + (ch l i).toInt - 48 := by
        rw [Int32.toInt_sub, m2, d48]
        exact Int.bmod_eq_of_le (by omega) (by omega)
      exact ih (i + 1) _ (k + 1) (by omega) (by rw [m3]; omega) (by rw [m3]; omega)
    · rw [if_neg c]
      have := p9 k (by omega)
      exact ⟨h0, by omega⟩
theorem wds_nv {l : List Int32} : Nvk l (wds l) := by
  intro k h
  unfold kK at h
  unfold kP
  rcases wds_at l k with hin | hin
  · obtain ⟨h1, h2, h3⟩ := wds_tk _ hin
    rw [h] at h2
    generalize ((wds l).getD k (0, 0, 0)).2.1 = s at *
    have hlt : ¬ l.length ≤ s := fun z => by have := (tk_fin l s).mpr z; omega
    have h2 := h2.symm
    unfold tk at h2
    rw [if_neg hlt] at h2
    by_cases c1 : isLe (ch l s) = true
    · rw [if_pos c1] at h2
      dsimp only at h2
      split at h2
      · exact absurd h2 (wk_ge l s _).1
      · omega
    rw [if_neg c1] at h2
    by_cases c2 : isDi (ch l s) = true
    · rw [if_pos c2] at h2
      dsimp only at h2
      split at h2
      · rename_i c9
        exact nv_b (l.length - s) s 0 0 (by omega) (by decide) (by decide)
      · omega
    rw [if_neg c2] at h2
    have := (sg_ge (ch l s) (ch l (s + 1))).1
    have h2 : sg (ch l s) (ch l (s + 1)) = 2 := h2
    omega
  · rw [hin] at h
    cases h
