/-! the class explores: what it rests on -/
/-- lengths of the chosen ones together -/
def isum (L : Nat → Nat) (P : Nat → Bool) : Nat → Nat
  | 0 => 0
  | m + 1 => isum L P m + if P m then L m else 0
theorem isum_rm {L : Nat → Nat} {P : Nat → Bool} {j : Nat} (hP : P j = true) : ∀ {m : Nat}, j < m → isum L P m = isum L (fun i => P i && decide (i ≠ j)) m + L j := by
  have same : ∀ m, m ≤ j → isum L P m = isum L (fun i => P i && decide (i ≠ j)) m := by
    intro m
    induction m with
    | zero => intro _; rfl
    | succ m ih =>
      intro h
      show isum L P m + (if P m then L m else 0) = isum L _ m + (if (P m && decide (m ≠ j)) = true then L m else 0)
      rw [ih (by omega), decide_eq_true (show m ≠ j by omega), Bool.and_true]
  intro m
  induction m with
  | zero => intro h; omega
  | succ m ih =>
    intro h
    show isum L P m + (if P m then L m else 0) = isum L _ m + (if (P m && decide (m ≠ j)) = true then L m else 0) + L j
    by_cases c : m = j
    · subst c
      rw [same m (Nat.le_refl _), if_pos hP, if_neg (by simp)]
      omega
    · rw [ih (by omega), decide_eq_true c, Bool.and_true]
      omega
theorem isum_0 {L : Nat → Nat} {P : Nat → Bool} : ∀ {m : Nat}, (∀ j, j < m → ¬ P j = true) → isum L P m = 0 := by
  intro m
  induction m with
  | zero => intro _; rfl
  | succ m ih =>
    intro h
    show isum L P m + (if P m then L m else 0) = 0
    rw [ih (fun j hj => h j (by omega)), if_neg (h m (by omega))]
/-- ranges that don't meet, all before a -/
theorem iv_le {fs L : Nat → Nat} {m : Nat} : ∀ (a : Nat) (P : Nat → Bool), (∀ j, j < m → P j = true → fs j + L j ≤ a ∧ 0 < L j) → (∀ i j, i < m → j < m → P i = true → P j = true → i ≠ j → fs i + L i ≤ fs j ∨ fs j + L j ≤ fs i) → isum L P m ≤ a := by
  intro a
  induction a using Nat.strongRecOn with
  | ind a ih =>
    intro P h1 h2
    by_cases c : ∃ j, j < m ∧ P j = true ∧ fs j + L j = a
    · obtain ⟨j, j1, j2, j3⟩ := c
      have l0 := (h1 j j1 j2).2
      rw [isum_rm j2 j1]
      have := ih (fs j) (by omega) (fun i => P i && decide (i ≠ j)) (fun i hi hp => by
        obtain ⟨p1, p2⟩ := Bool.and_eq_true_iff.mp hp
        have p2 := of_decide_eq_true p2
        obtain ⟨q1, q2⟩ := h1 i hi p1
        refine ⟨?_, q2⟩
        rcases h2 i j hi j1 p1 j2 p2 with z | z
        · exact z
        · omega) (fun i i' hi hi' hp hp' ne => h2 i i' hi hi' (Bool.and_eq_true_iff.mp hp).1 (Bool.and_eq_true_iff.mp hp').1 ne)
      omega
    · by_cases a0 : a = 0
      · rw [isum_0 (fun j hj hp => by have := h1 j hj hp; omega)]
        exact Nat.zero_le _
      · have := ih (a - 1) (by omega) P (fun j hj hp => by
          obtain ⟨q1, q2⟩ := h1 j hj hp
          refine ⟨?_, q2⟩
          have : fs j + L j ≠ a := fun z => c ⟨j, hj, hp, z⟩
          omega) h2
        omega
section KC
variable {l : List Int32} {w : List (Nat × Nat × Nat)} {E : List En} {X fs hs : Nat → Nat} {M M' : Nat → Nat → Int32} {vs vs' : Vl} {T : Tr} {n m h k kd e : Nat} {σ σ' : st_S}
/-- what formulas may still cost -/
theorem phi2_le (hs : SF l w E X fs) {a : Nat} (hm : m ≤ E.length) (hb : ∀ j, j < m → (E.getD j eN).2.1 = 2 → fs j + tln (fTr E j) < a) : phi2 E X σ m ≤ 2 * a := by
  have P : ∀ m, phi2 E X σ m ≤ 2 * isum (fun j => tln (fTr E j) + 1) (fun j => decide ((E.getD j eN).2.1 = 2)) m := by
    intro m
    induction m with
    | zero => exact Nat.le_refl _
    | succ m ih =>
      show phi2 E X σ m + trm E X σ m ≤ 2 * (isum _ _ m + if decide ((E.getD m eN).2.1 = 2) = true then tln (fTr E m) + 1 else 0)
      have : trm E X σ m ≤ 2 * (if decide ((E.getD m eN).2.1 = 2) = true then tln (fTr E m) + 1 else 0) := by
        unfold trm
        by_cases c : (E.getD m eN).2.1 = 2
        · rw [if_pos (decide_eq_true c)]
          split <;> omega
        · rw [if_neg (fun z => c z.1)]
          omega
      omega
  have := P m
  have := iv_le (fs := fs) (L := fun j => tln (fTr E j) + 1) (m := m) a (fun j => decide ((E.getD j eN).2.1 = 2)) (fun j hj hp => ⟨by have := hb j hj (of_decide_eq_true hp); omega, Nat.succ_pos _⟩) (fun i j hi hj hp hp' ne => by
    have := (hs.2.2 i j (by omega) (by omega) (of_decide_eq_true hp) (of_decide_eq_true hp') ne).2
    omega)
  omega
theorem nfo_cnt : ∀ {m : Nat}, m ≤ E.length → nfo E m ≤ cnt E 2 := by
  have e : ∀ m, m ≤ E.length → nfo E m = ((E.take m).filter fun e => decide (e.2.1 = 2)).length := by
    intro m
    induction m with
    | zero => intro _; rfl
    | succ m ih =>
      intro h
      have g : E.getD m eN = E[m] := by rw [List.getD_eq_getElem?_getD, List.getElem?_eq_getElem (by omega)]; rfl
      rw [nfo_s, ih (by omega), List.take_succ_eq_append_getElem (by omega), List.filter_append, List.length_append, g]
      by_cases c : (E[m]).2.1 = 2
      · rw [if_pos c, List.filter_cons_of_pos (by simpa using c)]; rfl
      · rw [if_neg c, List.filter_cons_of_neg (by simpa using c)]; rfl
  intro m h
  rw [e m h]
  exact ((List.take_sublist m E).filter _).length_le
/-- values of names, where the vars' values are the same -/
theorem fvn_cg (hF : ∀ j, j < E.length → (E.getD j eN).2.1 = 2 → Wf w (fTr E j) ∧ NBl l w E j (fTr E j)) (hv : ∀ j, j < E.length → (E.getD j eN).2.1 = 3 → vs (vno E j) = vs' (vno E j)) (hk : ∀ j, j < E.length → (E.getD j eN).2.1 = 1 ∨ (E.getD j eN).2.1 = 2 ∨ (E.getD j eN).2.1 = 3) : ∀ (j : Nat), j < E.length → fvn l w E vs j = fvn l w E vs' j := by
  intro j
  induction j using Nat.strongRecOn with
  | ind j ih =>
    intro hj
    by_cases c1 : (E.getD j eN).2.1 = 1
    · rw [fvn_c c1, fvn_c c1]
    by_cases c3 : (E.getD j eN).2.1 = 3
    · unfold fvn evn
      rw [if_neg c1, if_pos c3, if_neg c1, if_pos c3]
      rw [show vs (E.getD j eN).2.2.2.2.2.2.1 = vs' (E.getD j eN).2.2.2.2.2.2.1 from hv j hj c3]
    have c2 : (E.getD j eN).2.1 = 2 := by have := hk j hj; omega
    obtain ⟨f1, f2⟩ := hF j hj c2
    unfold fvn evn
    rw [if_neg c1, if_neg c3, if_neg c1, if_neg c3]
    refine evl_cg (m := j) (fun i hi => ?_) (fTr E j) false f1 f2
    show (fvs l w E vs j).getD i (.inl (0, 0)) = (fvs l w E vs' j).getD i (.inl (0, 0))
    rw [fvs_get l w E vs j i hi, fvs_get l w E vs' j i hi]
    exact ih i hi (by omega)
/-- a rule in the class's nodes, its end the node e -/
def RuK (l : List Int32) (w : List (Nat × Nat × Nat)) (E : List En) (X fs : Nat → Nat) (n : Nat) (M : Nat → Nat → Int32) (kd : Nat) (T : Tr) (e : Nat) : Prop := ∃ a m, e = a + tln T ∧ e < n ∧ Cr l w E X M T a ∧ chk l w E false T = .inr kd ∧ M e 0 = nI 26 ∧ M e 1 = nI (kP w (bw T)) ∧ M e 2 = nI (e - 1) ∧ M e 4 = nI a ∧ Wf w T ∧ lev T ≤ 6 ∧ m ≤ E.length ∧ NBl l w E m T ∧ (∀ j, j < m → (E.getD j eN).2.1 = 2 → fs j + tln (fTr E j) < a) ∧ ∀ j, m ≤ j → j < E.length → (E.getD j eN).2.1 = 2 → e < fs j
theorem RuK.sta (q : RuK l w E X fs n M kd T e) (s : Sta M M') : RuK l w E X fs n M' kd T e := by
  obtain ⟨a, m, q1, q2, q3, q4, q5, q6, q7, q8, q9⟩ := q
  have c := (s e).1
  exact ⟨a, m, q1, q2, s.cr q3, q4, (c 0 (by decide)).trans q5, (c 1 (by decide)).trans q6, (c 2 (by decide)).trans q7, (c 4 (by decide)).trans q8, q9⟩
theorem Rul.ruk {a : Nat} (q : Rul l w E X fs M T a m kd) (hn : a + tln T < n) : RuK l w E X fs n M kd T (a + tln T) := by
  obtain ⟨⟨r1, r2, r3, r4, r5, r6, r7, r8⟩, q2, q3, q4, q5, q6, q7⟩ := q
  exact ⟨a, m, rfl, hn, r1, r2, r4, r5, r6, r7, q2, q3, q4, q5, q6, q7⟩
/-- the sets of a branch, in their order -/
def SetsK (l : List Int32) (w : List (Nat × Nat × Nat)) (E : List En) (X fs : Nat → Nat) (n : Nat) (M : Nat → Nat → Int32) : Int32 → List Tr → Prop
  | p, [] => p = -1
  | p, T :: S => ∃ i e, p = nI i ∧ i < n ∧ M i 1 = nI (kP w (bw T - 4)) ∧ M i 2 = nI (X (vjx l w E T)) ∧ M i 3 = nI e ∧ (∃ j, fnd l w E (bw T - 3) = some j ∧ (E.getD j eN).2.1 = 3 ∧ RuK l w E X fs n M (kdn (E.getD j eN)) T e) ∧ SetsK l w E X fs n M (M i 4) S
def BrsK (l : List Int32) (w : List (Nat × Nat × Nat)) (E : List En) (X fs : Nat → Nat) (n : Nat) (M : Nat → Nat → Int32) : Int32 → List (Tr × List Tr) → Prop
  | p, [] => p = -1
  | p, b :: B => ∃ i e, p = nI i ∧ i < n ∧ M i 1 = nI (kP w (bw b.1)) ∧ M i 2 = nI e ∧ RuK l w E X fs n M 1 b.1 e ∧ SetsK l w E X fs n M (M i 3) b.2.reverse ∧ BrsK l w E X fs n M (M i 4) B
theorem SetsK.sta (s : Sta M M') : ∀ {S : List Tr} {p : Int32}, SetsK l w E X fs n M p S → SetsK l w E X fs n M' p S := by
  intro S
  induction S with
  | nil => intro p q; exact q
  | cons T S ih =>
    intro p q
    obtain ⟨i, e, q1, q2, q3, q4, q5, ⟨j, j1, j2, j3⟩, q6⟩ := q
    have c := (s i).1
    exact ⟨i, e, q1, q2, (c 1 (by decide)).trans q3, (c 2 (by decide)).trans q4, (c 3 (by decide)).trans q5, ⟨j, j1, j2, j3.sta s⟩, by rw [c 4 (by decide)]; exact ih q6⟩
theorem BrsK.sta (s : Sta M M') : ∀ {B : List (Tr × List Tr)} {p : Int32}, BrsK l w E X fs n M p B → BrsK l w E X fs n M' p B := by
  intro B
  induction B with
  | nil => intro p q; exact q
  | cons b B ih =>
    intro p q
    obtain ⟨i, e, q1, q2, q3, q4, q5, q6, q7⟩ := q
    have c := (s i).1
    exact ⟨i, e, q1, q2, (c 1 (by decide)).trans q3, (c 2 (by decide)).trans q4, q5.sta s, by rw [c 3 (by decide)]; exact q6.sta s, by rw [c 4 (by decide)]; exact ih q7⟩
/-- a command's branches with what is still to come -/
def bex (B0 : List (Tr × List Tr)) (S : List Tr) (Bs : List (Tr × List Tr)) : List (Tr × List Tr) := (match B0 with
  | [] => []
  | (c, S0) :: B => (c, S.reverse ++ S0) :: B).reverse ++ Bs
theorem lk_brs : ∀ {R : List (Nat × Tr)} {nb ns : Int32} {S : List Tr} {Bs : List (Tr × List Tr)}, LK l w E X M h R nb ns → RC l w E X fs M h m R → lyn h R ≤ n → BrsK l w E X fs n M nb Bs → SetsK l w E X fs n M ns S → n < 2 ^ 31 → (bsr R ≠ [] ∨ Bs ≠ []) → BrsK l w E X fs n M (M h 4) (bex (bsr R) S Bs) := by
  intro R
  induction R with
  | nil =>
    intro nb ns S Bs hL _ hn hB _ h31 hne
    have hne : Bs ≠ [] := by
      rcases hne with z | z
      · exact absurd rfl z
      · exact z
    show BrsK l w E X fs n M (M h 4) ([] ++ Bs)
    rw [List.nil_append]
    cases Bs with
    | nil => exact absurd rfl hne
    | cons b B =>
      have : M h 4 = nb := hL (by
        obtain ⟨i, e, q1, q2, -⟩ := hB
        rw [q1]
        exact le_nI (a := 0) (Nat.zero_le _) (by omega))
      rw [this]
      exact hB
  | cons x R ih =>
    obtain ⟨r, T⟩ := x
    intro nb ns S Bs hL hC hn hB hS h31 hne
    have ey : lyn h ((r, T) :: R) = lyn h R + mk r + tln T + 1 := rfl
    rw [ey] at hn
    obtain ⟨q1, kd, q2, q5, q6, q7⟩ := hC
    have rk := q2.ruk (n := n) (by omega)
    unfold LK at hL
    by_cases c6 : r = 6
    · subst c6
      rw [if_pos rfl] at hL
      have m1 : mk 6 = 1 := rfl
      rw [m1] at hn rk
      obtain ⟨⟨l0, l2, l3, l4, l1⟩, hL'⟩ := hL
      have e6 : bsr ((6, T) :: R) = (T, []) :: bsr R := rfl
      have I := ih (S := []) (Bs := (T, S.reverse) :: Bs) hL' q1 (by omega) ⟨lyn h R, lyn h R + 1 + tln T, rfl, by omega, l1, l2, (by have z := rk; rw [q6 rfl] at z; exact z), by rw [l3, List.reverse_reverse]; exact hS, by rw [l4]; exact hB⟩ rfl h31 (Or.inr (by simp))
      rw [e6]
      have : bex ((T, []) :: bsr R) S Bs = bex (bsr R) [] ((T, S.reverse) :: Bs) := by
        unfold bex
        cases hb : bsr R with
        | nil => simp
        | cons b B => obtain ⟨c, S0⟩ := b; simp
      rw [this]
      exact I
    rw [if_neg c6] at hL
    by_cases c7 : r = 7
    · subst c7
      rw [if_pos rfl] at hL
      have m1 : mk 7 = 1 := rfl
      rw [m1] at hn rk
      obtain ⟨⟨l0, l2, l3, l4, l1⟩, hL'⟩ := hL
      obtain ⟨j, j1, j2, j3⟩ := q7 rfl
      have e7 : bsr ((7, T) :: R) = match bsr R with
        | [] => []
        | (c, S) :: B => (c, T :: S) :: B := rfl
      have I := ih (S := T :: S) (Bs := Bs) hL' q1 (by omega) hB ⟨lyn h R, lyn h R + 1 + tln T, rfl, by omega, l1, l2, l3, ⟨j, j1, j2, by rw [← j3]; exact rk⟩, by rw [l4]; exact hS⟩ h31 (by
        rcases hne with z | z
        · exact Or.inl (fun y => z (by rw [e7, y]))
        · exact Or.inr z)
      have : bex (bsr ((7, T) :: R)) S Bs = bex (bsr R) (T :: S) Bs := by
        rw [e7]
        unfold bex
        cases hb : bsr R with
        | nil => rfl
        | cons b B => obtain ⟨c, S0⟩ := b; simp
      rw [this]
      exact I
    · rw [if_neg c7] at hL
      have eo : bsr ((r, T) :: R) = bsr R := by
        show (if r = 6 then _ else if r = 7 then _ else bsr R) = _
        rw [if_neg c6, if_neg c7]
      rw [eo] at hne ⊢
      exact ih hL.2 q1 (by omega) hB hS h31 hne
theorem ch_31 : ∀ {R : List (Nat × Tr)}, Ch w 31 k R → ∀ x ∈ R, 5 ≤ x.1 ∧ x.1 ≤ 7 := by
  intro R
  induction R with
  | nil => intro _ x hx; cases hx
  | cons y R ih =>
    obtain ⟨r, T⟩ := y
    intro hC x hx
    obtain ⟨h1, -, -, hB⟩ := hC
    rcases List.mem_cons.mp hx with z | z
    · rw [z]
      show 5 ≤ r ∧ r ≤ 7
      rcases hB with ⟨-, z, -⟩ | ⟨-, z, -⟩ | ⟨-, z, -⟩ | ⟨-, z, -⟩ | ⟨-, -, z, -⟩ | ⟨T', R1, rfl, -⟩ | ⟨T', R1, rfl, -⟩ | ⟨T', R1, -, z, -⟩ | ⟨T', R1, -, z, -⟩ | ⟨T', R1, -, z, -⟩ | ⟨z, -⟩
      · omega
      · omega
      · omega
      · omega
      · omega
      · have := ih h1 (1, T') List.mem_cons_self; dsimp only at this; omega
      · have := ih h1 (2, T') List.mem_cons_self; dsimp only at this; omega
      · omega
      · omega
      · omega
      · omega
    · exact ih h1 x z
theorem lk_gd : ∀ {R : List (Nat × Tr)} {nb ns : Int32}, LK l w E X M h R nb ns → RC l w E X fs M h m R → Ch w 31 k R → lyn h R ≤ n → R ≠ [] → ∃ e, M h 3 = nI e ∧ RuK l w E X fs n M 2 (gdr R) e := by
  intro R
  induction R with
  | nil => intro _ _ _ _ _ _ z; exact absurd rfl z
  | cons x R ih =>
    obtain ⟨r, T⟩ := x
    intro nb ns hL hC hH hn _
    have ey : lyn h ((r, T) :: R) = lyn h R + mk r + tln T + 1 := rfl
    rw [ey] at hn
    obtain ⟨q1, kd, q2, q5, q6, q7⟩ := hC
    have rr := ch_31 hH (r, T) List.mem_cons_self
    dsimp only at rr
    unfold LK at hL
    have eg : gdr ((r, T) :: R) = if r = 5 then T else gdr R := rfl
    have ne : r ≠ 5 → R ≠ [] := fun z y => by
      subst y
      obtain ⟨-, -, -, hB⟩ := hH
      rcases hB with ⟨-, z, -⟩ | ⟨-, z, -⟩ | ⟨-, z, -⟩ | ⟨-, z, -⟩ | ⟨-, -, z, -⟩ | ⟨T', R1, z, -⟩ | ⟨T', R1, z, -⟩ | ⟨T', R1, z, -⟩ | ⟨T', R1, z, -⟩ | ⟨T', R1, z, -⟩ | ⟨-, j, z, -⟩
      · omega
      · omega
      · omega
      · omega
      · omega
      · cases z
      · cases z
      · cases z
      · cases z
      · cases z
      · exact z
    by_cases c6 : r = 6
    · rw [if_pos c6] at hL
      rw [eg, if_neg (by omega)]
      exact ih hL.2 q1 hH.1 (by omega) (ne (by omega))
    rw [if_neg c6] at hL
    by_cases c7 : r = 7
    · rw [if_pos c7] at hL
      rw [eg, if_neg (by omega)]
      exact ih hL.2 q1 hH.1 (by omega) (ne (by omega))
    · rw [if_neg c7] at hL
      have c5 : r = 5 := by omega
      rw [eg, if_pos c5]
      refine ⟨_, hL.1, ?_⟩
      have := q2.ruk (n := n) (by omega)
      rw [q5 c5] at this
      exact this
/-- a command in the class's nodes -/
def CoK (l : List Int32) (w : List (Nat × Nat × Nat)) (E : List En) (X fs : Nat → Nat) (n : Nat) (M : Nat → Nat → Int32) (h : Nat) (c : It) : Prop := h < n ∧ M h 1 = nI (kP w c.2.1) ∧ M h 2 = nI (pwo w c) ∧ (∃ e, M h 3 = nI e ∧ RuK l w E X fs n M 2 (gdr c.2.2) e) ∧ BrsK l w E X fs n M (M h 4) (bsr c.2.2).reverse
theorem CoK.sta {c : It} (q : CoK l w E X fs n M h c) (s : Sta M M') : CoK l w E X fs n M' h c := by
  obtain ⟨q1, q2, q3, ⟨e, q4, q5⟩, q6⟩ := q
  have c := (s h).1
  exact ⟨q1, (c 1 (by decide)).trans q2, (c 2 (by decide)).trans q3, ⟨e, (c 3 (by decide)).trans q4, q5.sta s⟩, by rw [c 4 (by decide)]; exact q6.sta s⟩
/-- commands as texts have them -/
def Cmd (w : List (Nat × Nat × Nat)) (c : It) : Prop := (kK w c.2.1 = 7 ∨ kK w c.2.1 = 8) ∧ bsr c.2.2 ≠ []
theorem CmR.at' : ∀ {C : List It}, CmR l w E X fs M hs n C → n < 2 ^ 31 → (∀ c ∈ C, Cmd w c) → ∀ {i : Nat} {c : It}, C.reverse[i]? = some c → CoK l w E X fs n M (hs i) c := by
  intro C
  induction C with
  | nil => intro _ _ _ i c h; cases h
  | cons x C ih =>
    obtain ⟨op, k, R⟩ := x
    intro q h31 hc i c hi
    obtain ⟨q1, q2, q3, q4, q5, q6, m, q7⟩ := q
    rcases rev_at hi with ⟨z1, z2⟩ | z
    · rw [z1, z2]
      subst q2
      obtain ⟨k1, k2⟩ := hc (31, k, R) List.mem_cons_self
      have k1 : kK w k = 7 ∨ kK w k = 8 := k1
      have k2 : bsr R ≠ [] := k2
      have g := lyn_gt (hs C.length) R
      have rne : R ≠ [] := fun z => k2 (by rw [z]; rfl)
      refine ⟨by omega, q4.2.1, ?_, lk_gd (R := R) (n := n) q6 q7 q5 (by omega) rne, ?_⟩
      · rw [q4.2.2.2.2 rfl]
        show nI (kK w k - 6) = nI (if kK w k = 8 then 2 else 1)
        rcases k1 with z | z <;> rw [z] <;> rfl
      · have := lk_brs (S := []) (Bs := []) q6 q7 (by omega) rfl rfl h31 (Or.inl k2)
        have e : bex (bsr R) [] [] = (bsr R).reverse := by
          unfold bex
          cases hb : bsr R with
          | nil => rfl
          | cons b B => obtain ⟨c, S0⟩ := b; simp
        rw [e] at this
        exact this
    · exact ih q1 h31 (fun c hc' => hc c (List.mem_cons_of_mem _ hc')) z
end KC
