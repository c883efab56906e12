/-! the reference's items: what holds all the time -/
section MI
variable {l : List Int32} {w : List (Nat × Nat × Nat)} {V V' : Nat → Int32 → Prop} {D D' : Nat → Nat → Int32} {E : List En} {e : En} {fa fa' : Nat → Nat} {n n' : Nat}
theorem Rt.mono (h : ∀ k v, V k v → V' k v) : ∀ {T : Tr} {a : Nat} {nx : Int32}, Rt l w V D T a nx → Rt l w V' D T a nx := by
  intro T
  induction T with
  | leaf k =>
    intro a nx q
    obtain ⟨q1, q2, q3, q4⟩ := q
    exact ⟨q1, q2, fun z => h _ _ (q3 z), q4⟩
  | branch p x y ix iy =>
    intro a nx q
    unfold Rt at q ⊢
    split
    · rename_i c
      rw [if_pos c] at q
      exact ⟨ix q.1, iy q.2⟩
    · rename_i c
      rw [if_neg c] at q
      split
      · rename_i c1
        rw [if_pos c1] at q
        exact iy q
      · rename_i c1
        rw [if_neg c1] at q
        refine ⟨q.1, ?_⟩
        have q2 := q.2
        split
        · rename_i c2
          rw [if_pos c2] at q2
          exact iy q2
        · rename_i c2
          rw [if_neg c2] at q2
          exact ⟨ix q2.1, iy q2.2⟩
theorem Vx_app {k : Nat} {v : Int32} (h : Vx l w E k v) : Vx l w (E ++ [e]) k v := by
  obtain ⟨j, h1, h2⟩ := h
  refine ⟨j, fnd_app h1, ?_⟩
  unfold vix at h2 ⊢
  rw [gD_app (fnd_lt h1)]
  exact h2
/-- a rule: its tree, from the a-th node on; formulas that it names stand before it -/
def RuR (l : List Int32) (w : List (Nat × Nat × Nat)) (E : List En) (fa : Nat → Nat) (D : Nat → Nat → Int32) (n kd : Nat) (T : Tr) (a : Nat) : Prop := Wf w T ∧ lev T ≤ 6 ∧ Rt l w (Vx l w E) D T a (-1) ∧ a + rln T ≤ n ∧ chk l w E false T = .inr kd ∧ ∃ m, m ≤ E.length ∧ NBl l w E m T ∧ ∀ j, j < m → (E.getD j eN).2.1 = 2 → fa j + rln (fTr E j) ≤ a
theorem RuR.app {kd a : Nat} {T : Tr} (h : RuR l w E fa D n kd T a) (hf : ∀ j, j < E.length → fa' j = fa j) : RuR l w (E ++ [e]) fa' D n kd T a := by
  obtain ⟨h1, h2, h3, h4, h5, m, h6, h7, h8⟩ := h
  refine ⟨h1, h2, h3.mono (fun _ _ => Vx_app), h4, chk_app h5, m, by rw [len_app]; omega, NBl_app h7, fun j hj hs => ?_⟩
  rw [gD_app (by omega)] at hs
  rw [hf j (by omega), fTr_app (by omega)]
  exact h8 j hj hs
theorem RuR.fr {kd a : Nat} {T : Tr} (h : RuR l w E fa D n kd T a) (hn : n ≤ n') (hD : ∀ i, i < n → D' i = D i) : RuR l w E fa D' n' kd T a := by
  obtain ⟨h1, h2, h3, h4, h5⟩ := h
  exact ⟨h1, h2, h3.fr (fun i _ z => hD i (by omega)), by omega, h5⟩
end MI
def Skx (σ : st_S) (o : Nat) : Prop := ∃ L, Sk σ o L
/-- lengths that never change -/
def RLn (σ : st_S) (g : Nat) : Prop := (∀ a, g + 13 ≤ a → a ≤ g + 17 → gN σ a = 60) ∧ (∀ a, g + 18 ≤ a → a ≤ g + 21 → gN σ a = 12) ∧ (∀ a, g + 22 ≤ a → a ≤ g + 25 → gN σ a = 60) ∧ (∀ a, g + 26 ≤ a → a ≤ g + 29 → gN σ a = 480) ∧ gN σ 163 = 16400 ∧ gN σ 164 = 16400 ∧ gN σ 167 = 12 ∧ gN σ 168 = 60 ∧ gN σ 169 = 60 ∧ gN σ 170 = 60
/-- what holds inside an item -/
def RM (g x : Nat) (l : List Int32) (w : List (Nat × Nat × Nat)) (E : List En) (σ0 σ : st_S) (n : Nat) (D : Nat → Nat → Int32) : Prop := RQ g x l w E σ0 σ n D ∧ RLn σ g ∧ Skx σ 165 ∧ Skx σ (g + 30) ∧ Skx σ (g + 32) ∧ Skx σ (g + 34)
section RMS
variable {N g x n n' : Nat} {σ σ0 σ' : st_S} {D D' : Nat → Nat → Int32} {w : List (Nat × Nat × Nat)} {l : List Int32} {E : List En} {I J Rr : List (Nat × Nat)} {A L : List Nat}
theorem Skx.fr {o : Nat} (h : Skx σ o) (fr : Fr 0 I J Rr A L σ σ') (h1 : (o, 1) ∉ I) (h2 : o + 1 ∉ A) : Skx σ' o := by
  obtain ⟨M, h⟩ := h
  exact ⟨M, h.fr fr h1 h2⟩
theorem RLn.fr (h : RLn σ g) (fr : Fr 0 I J Rr A L σ σ') (h1 : ∀ a, g + 13 ≤ a → a ≤ g + 29 → a ∉ A) (h2 : 163 ∉ A ∧ 164 ∉ A ∧ 167 ∉ A ∧ 168 ∉ A ∧ 169 ∉ A ∧ 170 ∉ A) : RLn σ' g := by
  obtain ⟨a1, a2, a3, a4, a5, a6, a7, a8, a9, a10⟩ := h
  have e := fun a z => (fr.2.2.2.1 a z).1
  obtain ⟨z1, z2, z3, z4, z5, z6⟩ := h2
  exact ⟨fun a p q => (e a (h1 a (by omega) (by omega))).trans (a1 a p q), fun a p q => (e a (h1 a (by omega) (by omega))).trans (a2 a p q), fun a p q => (e a (h1 a (by omega) (by omega))).trans (a3 a p q), fun a p q => (e a (h1 a (by omega) (by omega))).trans (a4 a p q), (e _ z1).trans a5, (e _ z2).trans a6, (e _ z3).trans a7, (e _ z4).trans a8, (e _ z5).trans a9, (e _ z6).trans a10⟩
theorem RLn.eq (h : RLn σ g) (e : gN σ' = gN σ) : RLn σ' g := by
  unfold RLn
  rw [e]
  exact h
/-- behind a rule -/
theorem RM.fz (hg : g = 79 ∨ g = 115) (h : RM g x l w E σ0 σ n D) (q : RQ g x l w E σ0 σ' n' D') (fr : FZ g σ σ') : RM g x l w E σ0 σ' n' D' := by
  obtain ⟨-, h2, h3, h4, h5, h6⟩ := h
  refine ⟨q, h2.fr fr ?_ ?_, h3.fr fr ?_ ?_, h4.fr fr ?_ ?_, h5.fr fr ?_ ?_, h6.fr fr ?_ ?_⟩
  · intro a z1 z2; simp only [List.mem_cons, List.not_mem_nil, or_false]; omega
  · simp only [List.mem_cons, List.not_mem_nil, or_false]; omega
  · simp only [List.mem_cons, List.not_mem_nil, or_false, Prod.mk.injEq]; omega
  · simp only [List.mem_cons, List.not_mem_nil, or_false]; omega
  · simp only [List.mem_cons, List.not_mem_nil, or_false, Prod.mk.injEq]; omega
  · simp only [List.mem_cons, List.not_mem_nil, or_false]; omega
  · simp only [List.mem_cons, List.not_mem_nil, or_false, Prod.mk.injEq]; omega
  · simp only [List.mem_cons, List.not_mem_nil, or_false]; omega
  · simp only [List.mem_cons, List.not_mem_nil, or_false, Prod.mk.injEq]; omega
  · simp only [List.mem_cons, List.not_mem_nil, or_false]; omega
theorem Rd.fr (h : Rd σ x l) (fr : Fr 0 I J Rr A L σ σ') (h1 : (x, 1) ∉ I) (h2 : x + 1 ∉ A) : Rd σ' x l := by
  obtain ⟨a1, a2, a3, a4, a5⟩ := h
  obtain ⟨e1, e2⟩ := fr.2.2.2.1 (x + 1) h2
  exact ⟨(fr.1 x 1 h1).trans a1, by rw [e1]; exact a2, by rw [e1]; exact a3, a4, by rw [e2]; exact a5⟩
/-- where names, words and nodes stay -/
theorem RQ.fr (hg : g = 79 ∨ g = 115) (hx : x = 67 ∨ x = 69) (h : RQ g x l w E σ0 σ n D) (fr : Fr 0 I [] [] A L σ σ') (h1 : ∀ q ∈ I, q ∈ RIf g ∧ (q.1 < 71 ∨ (162 < q.1 ∧ q.1 < 1000) ∨ q.1 = g ∨ q.1 = g + 30 ∨ q.1 = g + 32 ∨ q.1 = g + 34) ∧ q.1 ≠ 67 ∧ q.1 ≠ 69) (h2 : ∀ a ∈ A, a ∈ RAf g ∧ (162 < a ∨ (g + 13 ≤ a ∧ a ≤ g + 35)) ∧ a ≠ g + 14 ∧ a ≠ g + 18) (h3 : ∀ a ∈ L, a ∈ RLf g) (h4 : ∀ a ∈ A, gN σ' a ≤ 100000) : RQ g x l w E σ0 σ' n D := by
  obtain ⟨b1, b2, b3, b4, b5, ⟨L7, b6⟩, ⟨L9, b7⟩, ⟨L1, b8⟩⟩ := h
  have hI : ∀ a, (71 ≤ a ∧ a ≤ 162 ∧ a ≠ g ∧ a ≠ g + 30 ∧ a ≠ g + 32 ∧ a ≠ g + 34) ∨ a = 67 ∨ a = 69 → (a, 1) ∉ I := fun a z q => by
    obtain ⟨-, q2, q3, q4⟩ := h1 _ q
    dsimp only at q2 q3 q4
    omega
  have hA : ∀ a, (a ≤ 162 ∧ ¬ (g + 13 ≤ a ∧ a ≤ g + 35)) ∨ a = g + 14 ∨ a = g + 18 → a ∉ A := fun a z q => by
    obtain ⟨-, q2, q3, q4⟩ := h2 _ q
    omega
  refine ⟨b1.mo fr (fun q z => (h1 q z).1) (fun q z => (h2 q z).1) h3 h4, b2.fr fr (fun a z1 z2 => hI a (by omega)) (fun a z1 z2 => hA a (by omega)), b3.fr fr (hI x (by omega)) (hA (x + 1) (by omega)), b4.fr fr (fun a z1 z2 => hI a (by omega)) (fun a z1 z2 => hA a (by omega)) (hA _ (by omega)) (hA _ (by omega)), b5.fr fr (fun a z1 z2 => hI a (by omega)) (fun a z1 z2 => hA a (by omega)), ⟨L7, b6.fr fr (hI _ (by omega)) (hA _ (by omega))⟩, ⟨L9, b7.fr fr (hI _ (by omega)) (hA _ (by omega))⟩, ⟨L1, b8.fr fr (hI _ (by omega)) (hA _ (by omega))⟩⟩
/-- behind a working out -/
theorem RM.fw (hg : g = 79 ∨ g = 115) (hx : x = 67 ∨ x = 69) (h : RM g x l w E σ0 σ n D) (fr : FW σ σ') (h8 : gN σ' 168 = 60) (hs : Skx σ' 165) : RM g x l w E σ0 σ' n D := by
  obtain ⟨h1, ⟨a1, a2, a3, a4, a5, a6, a7, a8, a9, a10⟩, h3, h4, h5, h6⟩ := h
  have e := fun a (z : a ∉ [166, 168]) => (fr.2.2.2.1 a z).1
  refine ⟨h1.fr hg hx fr ?_ ?_ ?_ ?_, ⟨fun a p q => (e a (by simp only [List.mem_cons, List.not_mem_nil, or_false]; omega)).trans (a1 a p q), fun a p q => (e a (by simp only [List.mem_cons, List.not_mem_nil, or_false]; omega)).trans (a2 a p q), fun a p q => (e a (by simp only [List.mem_cons, List.not_mem_nil, or_false]; omega)).trans (a3 a p q), fun a p q => (e a (by simp only [List.mem_cons, List.not_mem_nil, or_false]; omega)).trans (a4 a p q), (e _ (by simp)).trans a5, (e _ (by simp)).trans a6, (e _ (by simp)).trans a7, h8, (e _ (by simp)).trans a9, (e _ (by simp)).trans a10⟩, hs, h4.fr fr ?_ ?_, h5.fr fr ?_ ?_, h6.fr fr ?_ ?_⟩
  · intro q z
    simp only [List.mem_cons, List.not_mem_nil, or_false] at z
    rcases z with rfl | rfl | rfl | rfl
    · exact ⟨by simp [RIf], by dsimp only; omega, by decide, by decide⟩
    · exact ⟨by simp [RIf], by dsimp only; omega, by decide, by decide⟩
    · exact ⟨by simp [RIf], by dsimp only; omega, by decide, by decide⟩
    · exact ⟨by simp [RIf], by dsimp only; omega, by decide, by decide⟩
  · intro a z
    simp only [List.mem_cons, List.not_mem_nil, or_false] at z
    rcases z with rfl | rfl
    · exact ⟨by simp [RAf], by omega, by omega, by omega⟩
    · exact ⟨by simp [RAf], by omega, by omega, by omega⟩
  · intro a z
    simp only [List.mem_cons, List.not_mem_nil, or_false] at z
    rcases z with rfl | rfl | rfl | rfl <;> simp [RLf]
  · intro a z
    simp only [List.mem_cons, List.not_mem_nil, or_false] at z
    rcases z with rfl | rfl
    · obtain ⟨M, hs⟩ := hs
      exact hs.2
    · rw [h8]; decide
  · simp only [List.mem_cons, List.not_mem_nil, or_false, Prod.mk.injEq]; omega
  · simp only [List.mem_cons, List.not_mem_nil, or_false]; omega
  · simp only [List.mem_cons, List.not_mem_nil, or_false, Prod.mk.injEq]; omega
  · simp only [List.mem_cons, List.not_mem_nil, or_false]; omega
  · simp only [List.mem_cons, List.not_mem_nil, or_false, Prod.mk.injEq]; omega
  · simp only [List.mem_cons, List.not_mem_nil, or_false]; omega
/-- a table's entry is written (not what names are) -/
theorem RM.e (hg : g = 79 ∨ g = 115) (hx : x = 67 ∨ x = 69) (h : RM g x l w E σ0 σ n D) {a k : Nat} (v : Int32) (ha : g + 13 ≤ a ∧ a ≤ g + 29 ∧ a ≠ g + 14 ∧ a ≠ g + 18 ∧ a ≠ g + 16 ∧ a ≠ g + 17) : RM g x l w E σ0 (st_e σ a k v) n D := by
  obtain ⟨h1, h2, h3, h4, h5, h6⟩ := h
  have fr : Fr 0 [] [] [] [a] [] σ (st_e σ a k v) := Fr.e σ k v (by simp)
  have hl := h2
  obtain ⟨a1, a2, a3, a4, -⟩ := h2
  refine ⟨h1.fr hg hx fr (fun q z => absurd z (by simp)) (fun b z => ?_) (fun b z => absurd z (by simp)) (fun b z => ?_), hl.eq rfl, h3.fr fr (by simp) ?_, h4.fr fr (by simp) ?_, h5.fr fr (by simp) ?_, h6.fr fr (by simp) ?_⟩
  · simp only [List.mem_cons, List.not_mem_nil, or_false] at z
    subst z
    refine ⟨?_, by omega, by omega, by omega⟩
    simp only [RAf, List.mem_cons, List.not_mem_nil, or_false]
    omega
  · simp only [List.mem_cons, List.not_mem_nil, or_false] at z
    subst z
    show gN σ b ≤ 100000
    have : gN σ b = 60 ∨ gN σ b = 12 ∨ gN σ b = 480 := by
      by_cases c1 : b ≤ g + 17
      · exact Or.inl (a1 b (by omega) c1)
      by_cases c2 : b ≤ g + 21
      · exact Or.inr (Or.inl (a2 b (by omega) c2))
      by_cases c3 : b ≤ g + 25
      · exact Or.inl (a3 b (by omega) c3)
      · exact Or.inr (Or.inr (a4 b (by omega) (by omega)))
    omega
  · simp only [List.mem_cons, List.not_mem_nil, or_false]; omega
  · simp only [List.mem_cons, List.not_mem_nil, or_false]; omega
  · simp only [List.mem_cons, List.not_mem_nil, or_false]; omega
  · simp only [List.mem_cons, List.not_mem_nil, or_false]; omega
theorem RM.eL (hg : g = 79 ∨ g = 115) (hx : x = 67 ∨ x = 69) (h : RM g x l w E σ0 σ n D) {a k : Nat} (v : Int64) (ha : a = g + 16 ∨ a = g + 17) : RM g x l w E σ0 (st_E σ a k v) n D := by
  obtain ⟨h1, h2, h3, h4, h5, h6⟩ := h
  have fr : Fr 0 [] [] [] [] [a] σ (st_E σ a k v) := Fr.E σ k v (by simp)
  refine ⟨h1.fr hg hx fr (fun q z => absurd z (by simp)) (fun b z => absurd z (by simp)) (fun b z => ?_) (fun b z => absurd z (by simp)), h2.eq rfl, h3.fr fr (by simp) (by simp), h4.fr fr (by simp) (by simp), h5.fr fr (by simp) (by simp), h6.fr fr (by simp) (by simp)⟩
  simp only [List.mem_cons, List.not_mem_nil, or_false] at z
  subst z
  rcases ha with rfl | rfl <;> simp [RLf]
theorem RM.i (hg : g = 79 ∨ g = 115) (hx : x = 67 ∨ x = 69) (h : RM g x l w E σ0 σ n D) {a k : Nat} (v : Int32) (ha : (a = g ∧ (k = 6 ∨ k = 12 ∨ k = 17 ∨ k = 18)) ∨ (a = 66 ∧ (k = 16 ∨ k = 17 ∨ k = 23))) : RM g x l w E σ0 (st_i σ a k v) n D := by
  obtain ⟨h1, h2, h3, h4, h5, h6⟩ := h
  have fr : Fr 0 [(a, k)] [] [] [] [] σ (st_i σ a k v) := Fr.i σ v (by simp)
  have k1 : k ≠ 1 := by omega
  refine ⟨h1.fr hg hx fr (fun q z => ?_) (fun b z => absurd z (by simp)) (fun b z => absurd z (by simp)) (fun b z => absurd z (by simp)), h2.eq rfl, h3.fr fr ?_ (by simp), h4.fr fr ?_ (by simp), h5.fr fr ?_ (by simp), h6.fr fr ?_ (by simp)⟩
  · simp only [List.mem_cons, List.not_mem_nil, or_false] at z
    subst z
    refine ⟨?_, by show _ ∨ _; dsimp only; omega, by dsimp only; omega, by dsimp only; omega⟩
    rcases ha with ⟨rfl, rfl | rfl | rfl | rfl⟩ | ⟨rfl, rfl | rfl | rfl⟩ <;> simp [RIf]
  · simp only [List.mem_cons, List.not_mem_nil, or_false, Prod.mk.injEq]; omega
  · simp only [List.mem_cons, List.not_mem_nil, or_false, Prod.mk.injEq]; omega
  · simp only [List.mem_cons, List.not_mem_nil, or_false, Prod.mk.injEq]; omega
  · simp only [List.mem_cons, List.not_mem_nil, or_false, Prod.mk.injEq]; omega
/-- a fault is told -/
theorem RM.st (hg : g = 79 ∨ g = 115) (hx : x = 67 ∨ x = 69) (h : RM g x l w E σ0 σ n D) (f p : Nat) : ∃ σ', F_165 N (nI f) (nI p) σ = some σ' ∧ gI σ' 66 16 = nI f ∧ gI σ' 66 17 = nI p ∧ RM g x l w E σ0 σ' n D :=
  ⟨_, rfl, rfl, rfl, (h.i hg hx (nI f) (Or.inr ⟨rfl, Or.inl rfl⟩)).i hg hx (nI p) (Or.inr ⟨rfl, Or.inr (Or.inl rfl)⟩)⟩
end RMS
