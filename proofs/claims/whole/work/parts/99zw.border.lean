/-! the class's checker: between items -/
section BO
variable {N : Nat} {σ : st_S} {t n : Nat} {M M' : Nat → Nat → Int32} {l : List Int32} {w : List (Nat × Nat × Nat)} {E : List En} {e : En} {X X' fs fs' : Nat → Nat} {tge : Int32} {nc : Nat} {hs hs' : Nat → Nat} {h b b' : Nat}
/-- a rule that stays: m, the names that were known -/
def Rul (l : List Int32) (w : List (Nat × Nat × Nat)) (E : List En) (X fs : Nat → Nat) (M : Nat → Nat → Int32) (T : Tr) (a m kd : Nat) : Prop := RuC l w E X M T a false kd ∧ Wf w T ∧ lev T ≤ 6 ∧ m ≤ E.length ∧ NBl l w E m T ∧ (∀ j, j < m → (E.getD j eN).2.1 = 2 → fs j + tln (fTr E j) < a) ∧ ∀ j, m ≤ j → j < E.length → (E.getD j eN).2.1 = 2 → a + tln T < fs j
theorem Rul.fr {T : Tr} {a m kd : Nat} (q : Rul l w E X fs M T a m kd) (he : ∀ i, a ≤ i → i < a + tln T + 1 → M' i = M i) : Rul l w E X fs M' T a m kd := ⟨q.1.fr he, q.2⟩
theorem Rul.app {T : Tr} {a m kd : Nat} (q : Rul l w E X fs M T a m kd) (hX : ∀ j, j < E.length → X' j = X j) (hf : ∀ j, j < E.length → fs' j = fs j) (hb : e.2.1 = 2 → a + tln T < fs' E.length) : Rul l w (E ++ [e]) X' fs' M T a m kd := by
  obtain ⟨⟨q1, q2, q3⟩, q4, q5, q6, q7, q8, q9⟩ := q
  refine ⟨⟨Cr_app hX q1, chk_app q2, q3⟩, q4, q5, by rw [len_app]; omega, NBl_app q7, fun j hj s => ?_, fun j h1 h2 s => ?_⟩
  · rw [gD_app (by omega)] at s
    rw [fTr_app (by omega), hf j (by omega)]
    exact q8 j hj s
  · rw [len_app] at h2
    by_cases c : j < E.length
    · rw [gD_app c] at s
      rw [hf j c]
      exact q9 j h1 c s
    · have : j = E.length := by omega
      subst this
      rw [gD_new] at s
      exact hb s
/-- the formulas' code -/
def FC (l : List Int32) (w : List (Nat × Nat × Nat)) (E : List En) (X fs : Nat → Nat) (M : Nat → Nat → Int32) : Prop := ∀ j, j < E.length → (E.getD j eN).2.1 = 2 → M (fs j + tln (fTr E j)) 0 = nI 26 ∧ M (fs j + tln (fTr E j)) 4 = nI (fs j) ∧ Cr l w E X M (fTr E j) (fs j)
theorem FC.fr (q : FC l w E X fs M) (hE : EXm M E X fs b) (he : ∀ i, i < b → M' i = M i) : FC l w E X fs M' := by
  intro j hj s
  obtain ⟨q1, q2, q3⟩ := q j hj s
  have lt : fs j + tln (fTr E j) < b := by
    rcases hE j hj with ⟨z, -⟩ | ⟨-, -, z, -⟩ | z
    · omega
    · exact z
    · omega
  exact ⟨by rw [he _ lt]; exact q1, by rw [he _ lt]; exact q2, q3.fr (fun i _ z => he i (by omega))⟩
theorem FC.app {x f : Nat} (q : FC l w E X fs M) (he : e.2.1 = 2 → M (f + tln e.2.2.2.1) 0 = nI 26 ∧ M (f + tln e.2.2.2.1) 4 = nI f ∧ Cr l w E X M e.2.2.2.1 f) : FC l w (E ++ [e]) (upf X E.length x) (upf fs E.length f) M := by
  intro j hj s
  have hX : ∀ j, j < E.length → upf X E.length x j = X j := fun j hj => upf_o (by omega)
  rw [len_app] at hj
  by_cases c : j = E.length
  · subst c
    rw [gD_new] at s
    rw [fTr_new, upf_s]
    obtain ⟨z1, z2, z3⟩ := he s
    exact ⟨z1, z2, Cr_app hX z3⟩
  · rw [gD_app (by omega)] at s
    rw [fTr_app (by omega), upf_o c]
    obtain ⟨z1, z2, z3⟩ := q j (by omega) s
    exact ⟨z1, z2, Cr_app hX z3⟩
theorem FC.mf (q : FC l w E X fs M) (hE : EXm M E X fs b) (hS : SP σ t w E X fs tge nc hs) (hC : CS σ t n M) (hb : b ≤ n) : MF σ t n M l w E X fs := by
  obtain ⟨-, ⟨l10, l11, l12, l13, l14, l15, l43, l44, l45⟩, -, -, -, s6, -⟩ := hS
  refine ⟨hC, l43, l44, l45, l14, fun j hj s => ?_⟩
  obtain ⟨q1, q2, q3⟩ := q j hj s
  rcases hE j hj with ⟨z, -⟩ | ⟨-, -, z3, z4, -⟩ | z
  · omega
  · exact ⟨s6 j hj s, by omega, q1, z4, q2, q3⟩
  · omega
/-- the target -/
def TgR (l : List Int32) (w : List (Nat × Nat × Nat)) (E : List En) (X fs : Nat → Nat) (M : Nat → Nat → Int32) (tg : Option Tr) (tge : Int32) (b : Nat) : Prop := match tg with
  | none => tge = -1
  | some T => ∃ a m, tge = nI (a + tln T) ∧ a + tln T < b ∧ Rul l w E X fs M T a m 2
theorem TgR.fr {tg : Option Tr} (q : TgR l w E X fs M tg tge b) (hb : b ≤ b') (he : ∀ i, i < b → M' i = M i) : TgR l w E X fs M' tg tge b' := by
  cases tg with
  | none => exact q
  | some T =>
    obtain ⟨a, m, q1, q2, q3⟩ := q
    exact ⟨a, m, q1, by omega, q3.fr (fun i _ z => he i (by omega))⟩
theorem TgR.app {tg : Option Tr} (q : TgR l w E X fs M tg tge b) (hX : ∀ j, j < E.length → X' j = X j) (hf : ∀ j, j < E.length → fs' j = fs j) (hb : e.2.1 = 2 → b ≤ fs' E.length) : TgR l w (E ++ [e]) X' fs' M tg tge b := by
  cases tg with
  | none => exact q
  | some T =>
    obtain ⟨a, m, q1, q2, q3⟩ := q
    exact ⟨a, m, q1, q2, q3.app hX hf (fun z => by have := hb z; omega)⟩
/-- the rules of a command -/
def RC (l : List Int32) (w : List (Nat × Nat × Nat)) (E : List En) (X fs : Nat → Nat) (M : Nat → Nat → Int32) (h m : Nat) : List (Nat × Tr) → Prop
  | [] => True
  | (r, T) :: R => RC l w E X fs M h m R ∧ ∃ kd, Rul l w E X fs M T (lyn h R + mk r) m kd ∧ (r = 5 → kd = 2) ∧ (r = 6 → kd = 1) ∧ (r = 7 → ∃ j, fnd l w E (bw T - 3) = some j ∧ (E.getD j eN).2.1 = 3 ∧ kd = kdn (E.getD j eN))
theorem RC.fr {m : Nat} : ∀ {R : List (Nat × Tr)}, RC l w E X fs M h m R → (∀ i, cdn h R i → M' i = M i) → RC l w E X fs M' h m R := by
  intro R
  induction R with
  | nil => intro _ _; trivial
  | cons x R ih =>
    obtain ⟨r, T⟩ := x
    intro q he
    obtain ⟨q1, kd, q2, q3⟩ := q
    exact ⟨ih q1 (fun i z => he i (Or.inr z)), kd, q2.fr (fun i a b => he i (Or.inl ⟨a, b⟩)), q3⟩
theorem RC.app {m : Nat} (hX : ∀ j, j < E.length → X' j = X j) (hf : ∀ j, j < E.length → fs' j = fs j) : ∀ {R : List (Nat × Tr)}, (e.2.1 = 2 → lyn h R ≤ fs' E.length) → RC l w E X fs M h m R → RC l w (E ++ [e]) X' fs' M h m R := by
  intro R
  induction R with
  | nil => intro _ _; trivial
  | cons x R ih =>
    obtain ⟨r, T⟩ := x
    intro hb q
    have ey : lyn h ((r, T) :: R) = lyn h R + mk r + tln T + 1 := rfl
    rw [ey] at hb
    obtain ⟨q1, kd, q2, q3, q4, q5⟩ := q
    refine ⟨ih (fun z => by have := hb z; omega) q1, kd, q2.app hX hf (fun z => by have := hb z; omega), q3, q4, fun z => ?_⟩
    obtain ⟨j, j1, j2, j3⟩ := q5 z
    have lt := fnd_lt j1
    exact ⟨j, fnd_app j1, by rw [gD_app lt]; exact j2, by rw [gD_app lt]; exact j3⟩
theorem LK.app {m : Nat} (hX : ∀ j, j < E.length → X' j = X j) : ∀ {R : List (Nat × Tr)} {nb ns : Int32}, RC l w E X fs M h m R → LK l w E X M h R nb ns → LK l w (E ++ [e]) X' M h R nb ns := by
  intro R
  induction R with
  | nil => intro nb ns _ q; exact q
  | cons x R ih =>
    obtain ⟨r, T⟩ := x
    intro nb ns qc q
    obtain ⟨q1, kd, q2, q3, q4, q5⟩ := qc
    unfold LK at q ⊢
    by_cases c6 : r = 6
    · rw [if_pos c6] at q ⊢
      exact ⟨q.1, ih q1 q.2⟩
    rw [if_neg c6] at q ⊢
    by_cases c7 : r = 7
    · rw [if_pos c7] at q ⊢
      obtain ⟨j, j1, j2, j3⟩ := q5 c7
      refine ⟨⟨q.1.1, ?_, q.1.2.2⟩, ih q1 q.2⟩
      have := q.1.2.1
      rw [j1] at this
      rw [fnd_app j1]
      show _ = nI (X' j)
      rw [hX j (fnd_lt j1)]
      exact this
    rw [if_neg c7] at q ⊢
    exact ⟨q.1, ih q1 q.2⟩
/-- the commands -/
def CmR (l : List Int32) (w : List (Nat × Nat × Nat)) (E : List En) (X fs : Nat → Nat) (M : Nat → Nat → Int32) (hs : Nat → Nat) (b : Nat) : List It → Prop
  | [] => True
  | (op, k, R) :: C => CmR l w E X fs M hs b C ∧ op = 31 ∧ lyn (hs C.length) R < b ∧ Hk w M (hs C.length) op k ∧ Ch w op k R ∧ LK l w E X M (hs C.length) R (-1) (-1) ∧ ∃ m, RC l w E X fs M (hs C.length) m R
theorem CmR.fr (hb : b ≤ b') (he : ∀ i, i < b → M' i = M i) : ∀ {C : List It}, CmR l w E X fs M hs b C → CmR l w E X fs M' hs b' C := by
  intro C
  induction C with
  | nil => intro _; trivial
  | cons x C ih =>
    obtain ⟨op, k, R⟩ := x
    intro q
    obtain ⟨q1, q2, q3, q4, q5, q6, m, q7⟩ := q
    have g := lyn_gt (hs C.length) R
    exact ⟨ih q1, q2, by omega, by unfold Hk; rw [he _ (by omega)]; exact q4, q5, q6.fr (fun i _ z _ => he i (by omega)), m, q7.fr (fun i z => he i (by have := cdn_b z; omega))⟩
theorem CmR.app (hX : ∀ j, j < E.length → X' j = X j) (hf : ∀ j, j < E.length → fs' j = fs j) (hb : e.2.1 = 2 → b ≤ fs' E.length) : ∀ {C : List It}, CmR l w E X fs M hs b C → CmR l w (E ++ [e]) X' fs' M hs b C := by
  intro C
  induction C with
  | nil => intro _; trivial
  | cons x C ih =>
    obtain ⟨op, k, R⟩ := x
    intro q
    obtain ⟨q1, q2, q3, q4, q5, q6, m, q7⟩ := q
    exact ⟨ih q1, q2, q3, q4, q5, q6.app hX q7, m, q7.app hX hf (fun z => by have := hb z; omega)⟩
theorem CmR.ho : ∀ {C : List It}, CmR l w E X fs M hs b C → (∀ i, i < C.length → hs' i = hs i) → CmR l w E X fs M hs' b C := by
  intro C
  induction C with
  | nil => intro _ _; trivial
  | cons x C ih =>
    obtain ⟨op, k, R⟩ := x
    intro q he
    obtain ⟨q1, q2⟩ := q
    rw [List.length_cons] at he
    refine ⟨ih q1 (fun i hi => he i (by omega)), ?_⟩
    rw [he C.length (by omega)]
    exact q2
/-- the numbers of vars and formulas -/
def XN (E : List En) (X : Nat → Nat) : Prop := (∀ j, j < E.length → (E.getD j eN).2.1 = 3 → X j < cnt E 3) ∧ (∀ j, j < E.length → (E.getD j eN).2.1 = 2 → X j < cnt E 2) ∧ (∀ i j, i < E.length → j < E.length → (E.getD i eN).2.1 = 3 → (E.getD j eN).2.1 = 3 → X i = X j → i = j)
theorem XN.app {x : Nat} (q : XN E X) (h3 : e.2.1 = 3 → x = cnt E 3) (h2 : e.2.1 = 2 → x = cnt E 2) : XN (E ++ [e]) (upf X E.length x) := by
  obtain ⟨q1, q2, q3⟩ := q
  refine ⟨fun j hj s => ?_, fun j hj s => ?_, fun i j hi hj si sj hx => ?_⟩
  · rw [len_app] at hj
    rw [cnt_app]
    by_cases c : j = E.length
    · subst c
      rw [gD_new] at s
      rw [upf_s, if_pos s, h3 s]
      omega
    · rw [gD_app (by omega)] at s
      rw [upf_o c]
      have := q1 j (by omega) s
      omega
  · rw [len_app] at hj
    rw [cnt_app]
    by_cases c : j = E.length
    · subst c
      rw [gD_new] at s
      rw [upf_s, if_pos s, h2 s]
      omega
    · rw [gD_app (by omega)] at s
      rw [upf_o c]
      have := q2 j (by omega) s
      omega
  · rw [len_app] at hi hj
    by_cases ci : i = E.length
    · by_cases cj : j = E.length
      · omega
      · subst ci
        rw [gD_new] at si
        rw [gD_app (by omega)] at sj
        rw [upf_s, upf_o cj, h3 si] at hx
        have := q1 j (by omega) sj
        omega
    · by_cases cj : j = E.length
      · subst cj
        rw [gD_new] at sj
        rw [gD_app (by omega)] at si
        rw [upf_s, upf_o ci, h3 sj] at hx
        have := q1 i (by omega) si
        omega
      · rw [gD_app (by omega)] at si sj
        rw [upf_o ci, upf_o cj] at hx
        exact q3 i j (by omega) (by omega) si sj hx
/-- between items: b nodes are done -/
def TI (σ : st_S) (t n : Nat) (M : Nat → Nat → Int32) (l : List Int32) (w : List (Nat × Nat × Nat)) (x : Tx) (X fs : Nat → Nat) (tge : Int32) (hs : Nat → Nat) (b : Nat) : Prop := CS σ t n M ∧ Wd σ l ∧ SP σ t w x.1 X fs tge x.2.2.length hs ∧ Unm σ ∧ EXm M x.1 X fs b ∧ SF l w x.1 X fs ∧ Cok x.1 ∧ FC l w x.1 X fs M ∧ XN x.1 X ∧ TgR l w x.1 X fs M x.2.1 tge b ∧ CmR l w x.1 X fs M hs b x.2.2
end BO
