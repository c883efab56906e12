/-! the reference: a rule is made and looked at -/
/-- what the reading of items may change -/
def RIf (g : Nat) : List (Nat × Nat) := [(66, 16), (66, 17), (66, 23), (151, 1), (153, 1), (155, 1), (157, 1), (159, 1), (161, 1), (165, 1), (g, 6), (g, 12), (g, 17), (g, 18), (g + 1, 1), (g + 3, 1), (g + 5, 1), (g + 7, 1), (g + 9, 1), (g + 11, 1), (g + 30, 1), (g + 32, 1), (g + 34, 1)]
def RAf (g : Nat) : List Nat := [152, 154, 156, 158, 160, 162, 166, 168, g + 2, g + 4, g + 6, g + 8, g + 10, g + 12, g + 13, g + 14, g + 15, g + 18, g + 19, g + 20, g + 21, g + 22, g + 23, g + 24, g + 25, g + 26, g + 27, g + 28, g + 29, g + 31, g + 33, g + 35]
def RLf (g : Nat) : List Nat := [163, 164, 169, 170, g + 16, g + 17]
def RB (g : Nat) (σ0 σ : st_S) : Prop := Fr 0 (RIf g) [] [] (RAf g) (RLf g) σ0 σ ∧ ∀ a ∈ RAf g, gN σ a ≤ 100000
theorem rts_6 {w : List (Nat × Nat × Nat)} : ∀ {T : Tr} (a : Nat), Wf w T → lev T ≤ 6 → rts T a = [a] := by
  intro T
  induction T with
  | leaf k => intro a _ _; rfl
  | branch m l r hl hr =>
    intro a hw h6
    have e : lvo (m % 64) ≤ 6 := h6
    rcases tcl_4 (m % 64) with c | c | c | c
    · exfalso
      have : m % 64 = 20 ∨ m % 64 = 21 ∨ m % 64 = 37 := by
        unfold tcl at c
        repeat' split at c
        all_goals omega
      rcases this with z | z | z <;> (rw [z] at e; revert e; decide)
    · rw [rts_1 c]
      have : m % 64 = 35 := by
        unfold tcl at c
        repeat' split at c
        all_goals omega
      rcases hw.br with ⟨c', -⟩ | ⟨c', -⟩ | ⟨c', -, h1, -, -, h2⟩ | ⟨c', -⟩ | ⟨c', -⟩ | ⟨c', -⟩ | ⟨c', -⟩ | ⟨c', -⟩
      · omega
      · omega
      · exact hr a h1 h2
      · omega
      · omega
      · omega
      · omega
      · have := bin_f c'; omega
    · exact rts_2 (Or.inl c)
    · exact rts_2 (Or.inr c)
section RBS
variable {N g x n : Nat} {σ σ0 σ' : st_S} {D : Nat → Nat → Int32} {w : List (Nat × Nat × Nat)} {l : List Int32} {E : List En} {I : List (Nat × Nat)} {A L : List Nat}
theorem RB.mo (h : RB g σ0 σ) (fr : Fr 0 I [] [] A L σ σ') (h1 : ∀ q ∈ I, q ∈ RIf g) (h2 : ∀ q ∈ A, q ∈ RAf g) (h3 : ∀ q ∈ L, q ∈ RLf g) (h4 : ∀ a ∈ A, gN σ' a ≤ 100000) : RB g σ0 σ' := by
  refine ⟨Fr.t0 h.1 (fr.mo h1 (fun _ q => q) (fun _ q => q) h2 h3), fun a ha => ?_⟩
  by_cases c : a ∈ A
  · exact h4 a c
  · rw [(fr.2.2.2.1 a c).1]
    exact h.2 a ha
theorem RB.gc (h : RB g σ0 σ) (hq : gC σ0 + 770000 < vz_M0) : gC σ + 400000 < vz_M0 := by
  have := Fr.gc h.1 (C := 100000) h.2
  have e : vz_M0 = 1000000 := rfl
  omega
/-- what the reading of items rests on -/
def RQ (g x : Nat) (l : List Int32) (w : List (Nat × Nat × Nat)) (E : List En) (σ0 σ : st_S) (n : Nat) (D : Nat → Nat → Int32) : Prop := RB g σ0 σ ∧ W3 σ w ∧ Rd σ x l ∧ NR σ g E ∧ DS σ g n D ∧ (∃ L, Sk σ 157 L) ∧ (∃ L, Sk σ 159 L) ∧ ∃ L, Sk σ 161 L
def RG (N g x : Nat) (l : List Int32) (w : List (Nat × Nat × Nat)) (E : List En) (σ0 : st_S) : Prop := (g = 79 ∨ g = 115) ∧ (x = 67 ∨ x = 69) ∧ 100000 < N ∧ K40 w ∧ w.length ≤ 16400 ∧ gC σ0 + 770000 < vz_M0 ∧ Pw l w ∧ NW w E ∧ NU l w E ∧ Nmk l w
/-- what a rule may change -/
abbrev FZ (g : Nat) (σ σ' : st_S) : Prop := Fr 0 [(66, 16), (66, 17), (157, 1), (159, 1), (161, 1), (g + 1, 1), (g + 3, 1), (g + 5, 1), (g + 7, 1), (g + 9, 1), (g + 11, 1)] [] [] [158, 160, 162, g + 2, g + 4, g + 6, g + 8, g + 10, g + 12] [] σ σ'
/-- a tree of words is made -/
theorem F168' (G : RG N g x l w E σ0) {T : Tr} (hw : Wf w T) (hl6 : lev T ≤ 6) (h : RQ g x l w E σ0 σ n D) (hn : n + rln T < 20000) : ∃ σ' D', F_168 N g x (nI (bw T)) (nI (ew T)) σ = some (nI n, σ') ∧ RQ g x l w E σ0 σ' (n + rln T) D' ∧ (∀ i, i < n → D' i = D i) ∧ Rt l w Vw D' T n (-1) ∧ FT g σ σ' := by
  obtain ⟨hg, hx, hN, h40, hl, hq, hP, hW, hu, hm⟩ := G
  obtain ⟨h1, h2, h3, h4, h5, ⟨L7, h6⟩, ⟨L9, h7⟩, ⟨L1, h8⟩⟩ := h
  have gc := h1.gc hq
  have G' : BG N g x l w σ := ⟨hg, hx, hN, h40, by omega, by omega, hP.1, hl⟩
  have fr : Fr 0 [(157, 1)] [] [] [158] [] σ (st_i σ 157 1 0) := Fr.i σ 0 (by simp)
  have ft : FT g σ (st_i σ 157 1 0) := fr.mo (by simp) (by simp) (by simp) (by simp) (by simp)
  have b0 : BQ g x l w σ (st_i σ 157 1 0) [] n D := ⟨ft, h2.ft hg ft, h3.ft hg hx ft, sk_0 h6, h5.j hg fr⟩
  obtain ⟨el, bl⟩ := ew_le hw
  obtain ⟨s1, a1, a2⟩ := F169 (p := -1) (a := bw T) (b := ew T) G' b0 (by decide)
  obtain ⟨σ2, D2, c, d1, d2, d3, d4⟩ := mkt (rt := nI n) G' hm hw (-1) [] [] n D s1 (by rw [jbs_1 hl6]; exact a2) (Or.inl rfl) (fun _ => hl6) (by rw [List.length_nil]; omega) hn
  have f : F_168 N g x (nI (bw T)) (nI (ew T)) σ = some (nI n, σ2) := by
    have gs : gI σ (g + 1) 1 = nI n := (h5 0 (by decide)).1
    unfold F_168
    rw [a1, ob_some, gs]
    have := d2 (N - c)
    rw [show N - c + c = N by omega] at this
    rw [this]
    have g0 : gI σ2 157 1 = 0 := d3.2.2.2.1.1.1
    obtain ⟨f, hf⟩ : ∃ f, N - c = f + 1 := ⟨N - c - 1, by omega⟩
    rw [hf]
    unfold L_168
    rw [g0, if_pos (by decide)]
  obtain ⟨e1, e2, e3, e4, e5⟩ := d3
  refine ⟨σ2, D2, f, ⟨h1.mo e1 ?_ ?_ (fun q z => by cases z) ?_, e2, e3, h4.fr e1 ?_ ?_ ?_ ?_, e5, ⟨_, e4⟩, ⟨L9, h7.fr e1 ?_ ?_⟩, ⟨L1, h8.fr e1 ?_ ?_⟩⟩, fun i hi => by rw [d4.1 i hi]; unfold jnd; rw [if_pos rfl], d4.2.1, e1⟩
  · intro q z
    simp only [RIf, List.mem_cons, List.not_mem_nil, or_false] at z ⊢
    rcases z with z | z | z | z | z | z | z <;> simp [z]
  · intro q z
    simp only [RAf, List.mem_cons, List.not_mem_nil, or_false] at z ⊢
    omega
  · intro a ha
    simp only [List.mem_cons, List.not_mem_nil, or_false] at ha
    rcases ha with rfl | rfl | rfl | rfl | rfl | rfl | rfl
    · exact e4.2
    · exact Nat.le_trans (e5 0 (by decide)).2.2.2.1 (by decide)
    · exact Nat.le_trans (e5 1 (by decide)).2.2.2.1 (by decide)
    · exact Nat.le_trans (e5 2 (by decide)).2.2.2.1 (by decide)
    · exact Nat.le_trans (e5 3 (by decide)).2.2.2.1 (by decide)
    · exact Nat.le_trans (e5 4 (by decide)).2.2.2.1 (by decide)
    · exact Nat.le_trans (e5 5 (by decide)).2.2.2.1 (by decide)
  · intro a z1 z2; simp only [List.mem_cons, List.not_mem_nil, or_false, Prod.mk.injEq]; omega
  · intro a z1 z2; simp only [List.mem_cons, List.not_mem_nil, or_false]; omega
  · simp only [List.mem_cons, List.not_mem_nil, or_false]; omega
  · simp only [List.mem_cons, List.not_mem_nil, or_false]; omega
  · simp only [List.mem_cons, List.not_mem_nil, or_false, Prod.mk.injEq]; omega
  · simp only [List.mem_cons, List.not_mem_nil, or_false]; omega
  · simp only [List.mem_cons, List.not_mem_nil, or_false, Prod.mk.injEq]; omega
  · simp only [List.mem_cons, List.not_mem_nil, or_false]; omega
/-- what looking leaves -/
theorem LQ.rq (hg : g = 79 ∨ g = 115) {σ1 : st_S} {R : List (Nat × Nat)} {V : List Int32} (h : RQ g x l w E σ0 σ n D) {D' : Nat → Nat → Int32} (q : LQ g x l w E σ σ1 R V n D') : RQ g x l w E σ0 σ1 n D' := by
  obtain ⟨h1, h2, h3, h4, h5, ⟨L7, h6⟩, h7, h8⟩ := h
  obtain ⟨q1, q2, q3, q4, q5, q6, q7⟩ := q
  refine ⟨h1.mo q1 ?_ ?_ (fun q z => by cases z) ?_, q2, q3, q4, q7, ⟨L7, h6.fr q1 ?_ ?_⟩, ⟨_, q6⟩, ⟨_, q5⟩⟩
  · intro q z
    simp only [RIf, List.mem_cons, List.not_mem_nil, or_false] at z ⊢
    rcases z with z | z | z | z <;> simp [z]
  · intro q z
    simp only [RAf, List.mem_cons, List.not_mem_nil, or_false] at z ⊢
    omega
  · intro a ha
    simp only [List.mem_cons, List.not_mem_nil, or_false] at ha
    rcases ha with rfl | rfl | rfl
    · exact q6.2
    · exact q5.2
    · exact Nat.le_trans (q7 3 (by decide)).2.2.2.1 (by decide)
  · simp only [List.mem_cons, List.not_mem_nil, or_false, Prod.mk.injEq]; omega
  · simp only [List.mem_cons, List.not_mem_nil, or_false]; omega
theorem RQ.f2 (G : RG N g x l w E σ0) (h : RQ g x l w E σ0 σ n D) (fr : Fr 0 [(66, 16), (66, 17)] [] [] [] [] σ σ') : RQ g x l w E σ0 σ' n D := by
  obtain ⟨hg, hx, -⟩ := G
  obtain ⟨h1, h2, h3, h4, h5, ⟨L7, h6⟩, ⟨L9, h7⟩, ⟨L1, h8⟩⟩ := h
  refine ⟨h1.mo fr (by intro q z; simp only [RIf, List.mem_cons, List.not_mem_nil, or_false] at z ⊢; rcases z with z | z <;> simp [z]) (by simp) (by simp) (by simp), h2.fr fr ?_ (by simp), ?_, h4.fr fr ?_ (by simp) (by simp) (by simp), h5.fr fr ?_ (by simp), ⟨L7, h6.fr fr (by simp) (by simp)⟩, ⟨L9, h7.fr fr (by simp) (by simp)⟩, ⟨L1, h8.fr fr (by simp) (by simp)⟩⟩
  · intro a z1 z2; simp only [List.mem_cons, List.not_mem_nil, or_false, Prod.mk.injEq]; omega
  · obtain ⟨a1, a2, a3, a4, a5⟩ := h3
    obtain ⟨e1, e2⟩ := fr.2.2.2.1 (x + 1) (by simp)
    exact ⟨(fr.1 x 1 (by simp only [List.mem_cons, List.not_mem_nil, or_false, Prod.mk.injEq]; omega)).trans a1, by rw [e1]; exact a2, by rw [e1]; exact a3, a4, by rw [e2]; exact a5⟩
  · intro a z1 z2; simp only [List.mem_cons, List.not_mem_nil, or_false, Prod.mk.injEq]; omega
  · intro a z1 z2; simp only [List.mem_cons, List.not_mem_nil, or_false, Prod.mk.injEq]; omega
/-- a rule is looked at -/
theorem F179 (G : RG N g x l w E σ0) {T : Tr} {co : Bool} (hw : Wf w T) (hl6 : lev T ≤ 6) (h : RQ g x l w E σ0 σ n D) (hf : gI σ 66 16 = 0) {a : Nat} (hR : Rt l w Vw D T a (-1)) (ha : a + rln T ≤ n) (hn : n < 20000) : match chk l w E co T with
    | .inl e => ∃ σ' D' v, F_179 N g x (nI a) (if co = true then 1 else 0) σ = some (v, σ') ∧ gI σ' 66 16 = nI e.1 ∧ gI σ' 66 17 = nI e.2 ∧ RQ g x l w E σ0 σ' n D' ∧ FY g σ σ'
    | .inr kd => ∃ σ' D', F_179 N g x (nI a) (if co = true then 1 else 0) σ = some ((if kd = 2 then 1 else 0 : Int32), σ') ∧ gI σ' 66 16 = 0 ∧ RQ g x l w E σ0 σ' n D' ∧ (∀ i, (i < a ∨ a + rln T ≤ i) → D' i = D i) ∧ Rt l w (Vx l w E) D' T a (-1) ∧ FY g σ σ' := by
  have Gq := G
  obtain ⟨hg, hx, hN, h40, hl, hq, hP, hW, hu, hm⟩ := G
  have h' := h
  obtain ⟨h1, h2, h3, h4, h5, h6, ⟨L9, h7⟩, ⟨L1, h8⟩⟩ := h
  have gc := h1.gc hq
  have G' : LGv N g x l w E σ := ⟨hg, hx, hN, h40, hl, by omega, hP, hW, hu⟩
  have fr : Fr 0 [(159, 1), (161, 1)] [] [] [160, 162] [] σ (st_i (st_i σ 161 1 0) 159 1 0) := Fr.t0 (Fr.i σ 0 (by simp)) (Fr.i _ 0 (by simp))
  have fy : FY g σ (st_i (st_i σ 161 1 0) 159 1 0) := fr.mo (by simp) (by simp) (by simp) (by simp) (by simp)
  have s1 : Sk (st_i (st_i σ 161 1 0) 159 1 0) 161 (g2 []) := by
    have k1 := sk_0 h8
    have fi : Fr 0 [(159, 1)] [] [] [] [] (st_i σ 161 1 0) (st_i (st_i σ 161 1 0) 159 1 0) := Fr.i _ 0 (by simp)
    exact k1.fr fi (by simp) (by simp)
  have s2 : Sk (st_i (st_i σ 161 1 0) 159 1 0) 159 [] := by
    have fi : Fr 0 [(161, 1)] [] [] [] [] σ (st_i σ 161 1 0) := Fr.i _ 0 (by simp)
    exact sk_0 (h7.fr fi (by simp) (by simp))
  have q0 : LQ g x l w E σ (st_i (st_i σ 161 1 0) 159 1 0) [] [] n D := by
    refine ⟨fy, h2.fr fr ?_ ?_, ?_, h4.fr fr ?_ ?_ ?_ ?_, s1, s2, h5.fr fr ?_ ?_⟩
    · intro a z1 z2; simp only [List.mem_cons, List.not_mem_nil, or_false, Prod.mk.injEq]; omega
    · intro a z1 z2; simp only [List.mem_cons, List.not_mem_nil, or_false]; omega
    · obtain ⟨a1, a2, a3, a4, a5⟩ := h3
      obtain ⟨e1, e2⟩ := fr.2.2.2.1 (x + 1) (by simp only [List.mem_cons, List.not_mem_nil, or_false]; omega)
      exact ⟨(fr.1 x 1 (by simp only [List.mem_cons, List.not_mem_nil, or_false, Prod.mk.injEq]; omega)).trans a1, by rw [e1]; exact a2, by rw [e1]; exact a3, a4, by rw [e2]; exact a5⟩
    · intro a z1 z2; simp only [List.mem_cons, List.not_mem_nil, or_false, Prod.mk.injEq]; omega
    · intro a z1 z2; simp only [List.mem_cons, List.not_mem_nil, or_false]; omega
    · simp only [List.mem_cons, List.not_mem_nil, or_false]; omega
    · simp only [List.mem_cons, List.not_mem_nil, or_false]; omega
    · intro a z1 z2; simp only [List.mem_cons, List.not_mem_nil, or_false, Prod.mk.injEq]; omega
    · intro a z1 z2; simp only [List.mem_cons, List.not_mem_nil, or_false]; omega
  obtain ⟨p1, p2, a1, a2, a3, a4⟩ := lq_push (N := N) (a := a) (d := 0) G' q0 (by decide)
  have a2 : N_133 N 161 0 p1 = some p2 := a2
  have hf2 : gI p2 66 16 = 0 := (a4.1 66 16 (by simp)).trans hf
  have rp := rln_pos T
  have K := lkF (co := co) G' (by omega) hw p2 [] [] D a (-1) hR (by rw [rts_6 a hw hl6]; exact a3) hf2 ha (by show 0 + _ ≤ _; omega) (by show 0 + _ ≤ _; omega)
  have run : F_179 N g x (nI a) (if co = true then 1 else 0) σ = L_179 N g x N 32 (if co = true then 1 else 0) 0 0 p2 := by
    unfold F_179
    rw [a1, ob_some, a2, ob_some]
  cases hc : chk l w E co T with
  | inl e =>
    rw [hc] at K
    obtain ⟨σ', c, k1, k2, k3, k4, R', V', D', k5⟩ := K
    refine ⟨σ', D', 0, ?_, k3, k4, LQ.rq hg h' k5, k5.1⟩
    rw [run]
    have := k2 (N - c - 1)
    rw [show N - c - 1 + c + 1 = N by omega] at this
    exact this
  | inr kd =>
    rw [hc] at K
    obtain ⟨σ', D', ks, c, k1, k2, k3, k4, k5, k6, k7, k8⟩ := K
    obtain ⟨y1, y2⟩ := k7.2.1 hl6
    rw [y1] at k4
    have k4 : LQ g x l w E σ σ' [] [nI (kd - 1)] n D' := k4
    refine ⟨σ', D', ?_, k3, LQ.rq hg h' k4, k5, k6, k4.1⟩
    rw [run]
    have := k2 (N - c)
    rw [show N - c + c = N by omega] at this
    rw [this]
    obtain ⟨f, hf⟩ : ∃ f, N - c = f + 1 := ⟨N - c - 1, by omega⟩
    rw [hf]
    unfold L_179
    have g0 : gI σ' 161 1 = 0 := k4.2.2.2.2.1.1.1
    have gs : gI σ' 159 1 = 1 := k4.2.2.2.2.2.1.1.1
    have gv : gE σ' 160 0 = nI (kd - 1) := k4.2.2.2.2.2.1.1.2.2.2 0 (show 0 < 1 by decide)
    have gl : 1 ≤ gN σ' (159 + 1) := k4.2.2.2.2.2.1.1.2.1
    have gl2 : gN σ' (159 + 1) ≤ 100000 := k4.2.2.2.2.2.1.2
    rw [if_pos rfl, g0, if_pos (by decide)]
    unfold J_179_174
    rw [if_pos k3]
    unfold N_183
    rw [gs, show (1 : Int32) - 1 = nI 0 by decide, if_pos (aB_nI (by omega) (by omega)), ob_some, show (nI 0).toNatClampNeg = 0 by decide]
    dsimp only
    rw [gv]
    rcases y2 with rfl | rfl
    · rfl
    · rfl
/-- a rule that must be a number, or a truth -/
def rok (l : List Int32) (w : List (Nat × Nat × Nat)) (E : List En) (co : Bool) (kw : Nat) (T : Tr) : Rs Nat := match chk l w E co T with
  | .inl e => .inl e
  | .inr kd => if kd = kw then .inr kd else .inl (3, kP w (bw T))
theorem F201 (G : RG N g x l w E σ0) {T : Tr} {co : Bool} {kw : Nat} (hk : kw = 1 ∨ kw = 2) (hw : Wf w T) (hl6 : lev T ≤ 6) (h : RQ g x l w E σ0 σ n D) (hf : gI σ 66 16 = 0) (hn : n + rln T < 20000) : match rok l w E co kw T with
    | .inl e => ∃ σ' n' D', F_201 N g x (nI (bw T)) (nI (ew T)) (if kw = 2 then 1 else 0) (if co = true then 1 else 0) σ = some (nI n, σ') ∧ gI σ' 66 16 = nI e.1 ∧ gI σ' 66 17 = nI e.2 ∧ RQ g x l w E σ0 σ' n' D' ∧ FZ g σ σ'
    | .inr _ => ∃ σ' D', F_201 N g x (nI (bw T)) (nI (ew T)) (if kw = 2 then 1 else 0) (if co = true then 1 else 0) σ = some (nI n, σ') ∧ gI σ' 66 16 = 0 ∧ RQ g x l w E σ0 σ' (n + rln T) D' ∧ (∀ i, i < n → D' i = D i) ∧ Rt l w (Vx l w E) D' T n (-1) ∧ FZ g σ σ' := by
  have hg := G.1
  obtain ⟨s1, D1, a1, a2, a3, a4, a5⟩ := F168' G hw hl6 h hn
  have hf1 : gI s1 66 16 = 0 := (a5.1 66 16 (by simp only [List.mem_cons, List.not_mem_nil, or_false, Prod.mk.injEq]; omega)).trans hf
  have K := F179 (co := co) G hw hl6 a2 hf1 a4 (Nat.le_refl _) hn
  have fz1 : FZ g σ s1 := a5.mo (by intro q z; simp only [List.mem_cons, List.not_mem_nil, or_false] at z ⊢; rcases z with z | z | z | z | z | z | z <;> simp [z]) (by simp) (by simp) (by intro q z; simp only [List.mem_cons, List.not_mem_nil, or_false] at z ⊢; omega) (by simp)
  have fz2 : ∀ {s : st_S}, FY g s1 s → FZ g σ s := fun {s} f => Fr.t0 fz1 (f.mo (by simp) (by simp) (by simp) (by intro q z; simp only [List.mem_cons, List.not_mem_nil, or_false] at z ⊢; omega) (by simp))
  unfold rok
  cases hc : chk l w E co T with
  | inl e =>
    rw [hc] at K
    obtain ⟨s2, D2, v, k1, k2, k3, k4, k5⟩ := K
    refine ⟨s2, _, D2, ?_, k2, k3, k4, fz2 k5⟩
    have e0 : ¬ gI s2 66 16 = 0 := by
      rw [k2]
      rcases chk_er hc with z | z <;> (rw [z]; decide)
    unfold F_201
    rw [a1, ob_some]
    dsimp only
    rw [k1, ob_some]
    dsimp only
    rw [if_neg e0]
  | inr kd =>
    rw [hc] at K
    obtain ⟨s2, D2, k1, k2, k4, k5, k6, k7⟩ := K
    have hk2 := (chk_3 T kd hw hc).2 hl6
    dsimp only
    by_cases c : kd = kw
    · rw [if_pos c]
      subst c
      refine ⟨s2, D2, ?_, k2, k4, fun i hi => by rw [k5 i (Or.inl hi), a3 i hi], k6, fz2 k7⟩
      unfold F_201
      rw [a1, ob_some]
      dsimp only
      rw [k1, ob_some]
      dsimp only
      rw [if_pos k2, if_pos rfl]
    · rw [if_neg c]
      have f159 := F159 (N := N) (k := bw T) k4.2.1 (by have := (ew_le hw).2; omega)
      have fr : Fr 0 [(66, 16), (66, 17)] [] [] [] [] s2 (st_i (st_i s2 66 16 3) 66 17 (nI (kP w (bw T)))) := Fr.t0 (Fr.i s2 3 (by simp)) (Fr.i _ _ (by simp))
      refine ⟨st_i (st_i s2 66 16 3) 66 17 (nI (kP w (bw T))), _, D2, ?_, rfl, rfl, k4.f2 G fr, fz2 (Fr.t0 k7 (fr.mo (by simp) (by simp) (by simp) (by simp) (by simp)))⟩
      unfold F_201
      rw [a1, ob_some]
      dsimp only
      rw [k1, ob_some]
      dsimp only
      rw [if_pos k2, if_neg (by rcases hk with rfl | rfl <;> rcases hk2 with rfl | rfl <;> first | exact absurd rfl c | decide), f159, ob_some]
      rfl
end RBS
