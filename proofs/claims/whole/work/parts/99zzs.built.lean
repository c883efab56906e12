/-! the reference: all of a tree is made -/
section BL2
variable {N g x : Nat} {σ0 : st_S} {w : List (Nat × Nat × Nat)} {l : List Int32}
/-- the value of a name, as it is made: its word -/
def Vw (k : Nat) (v : Int32) : Prop := v = nI k
theorem bw_t {m : Nat} {l' r : Tr} (h : tcl (m % 64) = 2) : m % 64 = 9 ∨ m % 64 = 16 ∨ m % 64 = 22 := by
  unfold tcl at h
  repeat' split at h
  all_goals first
    | assumption
    | omega
/-- behind a node with one part -/
theorem bp_2 {m n : Nat} {l' r : Tr} {p : Int32} {cs : List Nat} {D D3 : Nat → Nat → Int32} (ht : tcl (m % 64) = 2) (hn : n < 20000) (hp : Par D n p cs) (h3 : Bp l w Vw (jnd (ndd D n (nrw w (nso w m) (m / 64) (bw (.branch m l' r)) 0)) p cs n) D3 r (n + 1) (nI n) []) : Bp l w Vw D D3 (.branch m l' r) n p cs := by
  obtain ⟨j1, j2, j3⟩ := jnd_n (rw0 := nrw w (nso w m) (m / 64) (bw (.branch m l' r)) 0) (show n < 40000 by omega) hp rfl
  generalize jnd (ndd D n (nrw w (nso w m) (m / 64) (bw (.branch m l' r)) 0)) p cs n = D2 at *
  obtain ⟨a1, a2, a3⟩ := h3
  have e2 : ∀ i, i < n + 1 → D3 i = pat D2 n 4 (nI (n + 1)) i := fun i hi => by
    rw [a1 i hi]
    unfold jnd
    rw [if_neg (nI_ne1 (by omega))]
    show pat D2 (nI n).toNatClampNeg 4 (nI (n + 1)) i = _
    rw [nI_clamp (by omega)]
  have eo : ∀ i, i < n → D3 i = D2 i := fun i hi => by rw [e2 i (by omega), pat_o _ _ (by omega)]
  refine ⟨fun i hi => by rw [eo i hi, j1 i hi], ?_, fun k hk hkn => ?_⟩
  · unfold Rt
    rw [if_neg (by omega), if_neg (by omega), if_pos ht, e2 n (by omega)]
    refine ⟨⟨⟨?_, ?_, ?_⟩, pat_s _ _ _ _, ?_⟩, a2⟩
    · rw [pat_c _ _ (by decide), j2]; rfl
    · rw [pat_c _ _ (by decide), j2]; rfl
    · rw [pat_c _ _ (by decide), j2]; rfl
    · rw [pat_c _ _ (by decide), j2]; rfl
  · rw [eo k hkn, rts_2 (Or.inl ht)]
    refine (j3 k hk hkn).fr (fun s hs => ?_)
    rcases List.mem_append.mp hs with z | z
    · rcases hp with y | ⟨k', y1, y2, y3, y4, y5⟩
      · rw [y] at hk
        exact absurd hk.symm (nI_ne1 (by omega))
      · rw [eo s (y4 s z)]
    · have : s = n := by simpa using z
      subst this
      rw [e2 s (by omega), pat_c _ _ (by decide)]
/-- behind a node with two parts or three -/
theorem bp_3 {m n : Nat} {l' r : Tr} {p : Int32} {cs : List Nat} {D D3 D4 : Nat → Nat → Int32} (ht : tcl (m % 64) = 3) (hs9 : nso w m = kK w (m / 64)) (hn : n + rln l' < 20000) (hp : Par D n p cs) (h3 : Bp l w Vw (jnd (ndd D n (nrw w (kK w (m / 64)) (m / 64) (bw (.branch m l' r)) 0)) p cs n) D3 l' (n + 1) (nI n) []) (h4 : Bp l w Vw D3 D4 r (n + 1 + rln l') (nI n) (rts l' (n + 1))) : Bp l w Vw D D4 (.branch m l' r) n p cs := by
  obtain ⟨j1, j2, j3⟩ := jnd_n (rw0 := nrw w (kK w (m / 64)) (m / 64) (bw (.branch m l' r)) 0) (show n < 40000 by omega) hp rfl
  generalize jnd (ndd D n (nrw w (kK w (m / 64)) (m / 64) (bw (.branch m l' r)) 0)) p cs n = D2 at *
  obtain ⟨a1, a2, a3⟩ := h3
  obtain ⟨b1, b2, b3⟩ := h4
  have pl := rln_pos l'
  have e2 : ∀ i, i < n + 1 → D3 i = pat D2 n 4 (nI (n + 1)) i := fun i hi => by
    rw [a1 i hi]
    unfold jnd
    rw [if_neg (nI_ne1 (by omega))]
    show pat D2 (nI n).toNatClampNeg 4 (nI (n + 1)) i = _
    rw [nI_clamp (by omega)]
  cases hc : (rts l' (n + 1)).getLast? with
  | none => exact absurd (by simpa using hc) (rts_ne l' (n + 1))
  | some s =>
    have sb := rts_b (List.mem_of_getLast? hc)
    have e4 : ∀ i, i < n + 1 + rln l' → D4 i = pat D3 s 5 (nI (n + 1 + rln l')) i := fun i hi => by
      rw [b1 i hi]
      unfold jnd
      rw [if_neg (nI_ne1 (by omega)), hc]
    have eo : ∀ i, i < n → D4 i = D2 i := fun i hi => by rw [e4 i (by omega), pat_o _ _ (by omega), e2 i (by omega), pat_o _ _ (by omega)]
    have en : D4 n = pat D2 n 4 (nI (n + 1)) n := by rw [e4 n (by omega), pat_o _ _ (by omega), e2 n (by omega)]
    refine ⟨fun i hi => by rw [eo i hi, j1 i hi], ?_, fun k hk hkn => ?_⟩
    · unfold Rt
      rw [if_neg (by omega), if_neg (by omega), if_neg (by omega), en]
      refine ⟨⟨⟨?_, ?_, ?_⟩, pat_s _ _ _ _, ?_⟩, (a2.nx (nx' := nI (n + 1 + rln l')) hc).fr (fun i h1 h2 => e4 i (by omega)), b2⟩
      · rw [pat_c _ _ (by decide), j2, hs9]; rfl
      · rw [pat_c _ _ (by decide), j2]; rfl
      · rw [pat_c _ _ (by decide), j2]; rfl
      · rw [pat_c _ _ (by decide), j2]; rfl
    · rw [eo k hkn, rts_2 (Or.inr ht)]
      refine (j3 k hk hkn).fr (fun s' hs => ?_)
      rcases List.mem_append.mp hs with z | z
      · rcases hp with y | ⟨k', y1, y2, y3, y4, y5⟩
        · rw [y] at hk
          exact absurd hk.symm (nI_ne1 (by omega))
        · rw [eo s' (y4 s' z)]
      · have : s' = n := by simpa using z
        subst this
        rw [en, pat_c _ _ (by decide)]
/-- two forests side by side -/
theorem bp_0 {m n k : Nat} {l' r : Tr} {cs : List Nat} {D D1 D2 : Nat → Nat → Int32} (ht : tcl (m % 64) = 0) (hn : n + rln l' < 20000) (hk : k < n) (h1 : Bp l w Vw D D1 l' n (nI k) cs) (h2 : Bp l w Vw D1 D2 r (n + rln l') (nI k) (cs ++ rts l' n)) : Bp l w Vw D D2 (.branch m l' r) n (nI k) cs := by
  obtain ⟨a1, a2, a3⟩ := h1
  obtain ⟨b1, b2, b3⟩ := h2
  have pl := rln_pos l'
  cases hc : (rts l' n).getLast? with
  | none => exact absurd (by simpa using hc) (rts_ne l' n)
  | some s =>
    have sb := rts_b (List.mem_of_getLast? hc)
    have e2 : ∀ i, i < n + rln l' → D2 i = pat D1 s 5 (nI (n + rln l')) i := fun i hi => by
      rw [b1 i hi]
      unfold jnd
      rw [if_neg (nI_ne1 (by omega)), gl_app (rts_ne l' n), hc]
    refine ⟨fun i hi => by rw [e2 i (by omega), pat_o _ _ (by omega), a1 i hi], ?_, fun k' hk' hkn => ?_⟩
    · unfold Rt
      rw [if_pos ht]
      exact ⟨(a2.nx (nx' := nI (n + rln l')) hc).fr (fun i h1 h2 => e2 i (by omega)), b2⟩
    · rw [rts_0 ht, ← List.append_assoc]
      exact b3 k' hk' (by omega)
/-- a leaf -/
theorem bp_l {n k : Nat} {p : Int32} {cs : List Nat} {D : Nat → Nat → Int32} {v : Int32} (hn : n < 20000) (hp : Par D n p cs) (h2 : kK w k = 2 → v = nv l (l.length - kP w k) (kP w k) 0) (h1 : kK w k = 1 → v = nI k) : Bp l w Vw D (pat (jnd (ndd D n (nrw w (kK w k) k k 0)) p cs n) n 3 v) (.leaf k) n p cs := by
  obtain ⟨j1, j2, j3⟩ := jnd_n (rw0 := nrw w (kK w k) k k 0) (show n < 40000 by omega) hp rfl
  generalize jnd (ndd D n (nrw w (kK w k) k k 0)) p cs n = D2 at *
  refine ⟨fun i hi => by rw [pat_o _ _ (by omega), j1 i hi], ?_, fun k' hk hkn => ?_⟩
  · unfold Rt
    refine ⟨⟨?_, ?_, ?_⟩, fun z => ?_, fun z => ?_, ?_, ?_⟩
    · rw [pat_c _ _ (by decide), j2]; rfl
    · rw [pat_c _ _ (by decide), j2]; rfl
    · rw [pat_c _ _ (by decide), j2]; rfl
    · rw [pat_s]; exact h2 z
    · rw [pat_s]; exact h1 z
    · rw [pat_c _ _ (by decide), j2]; rfl
    · rw [pat_c _ _ (by decide), j2]; rfl
  · rw [pat_o _ _ (by omega)]
    refine (j3 k' hk hkn).fr (fun s' hs => ?_)
    by_cases z : s' = n
    · rw [z, pat_c _ _ (by decide)]
    · rw [pat_o _ _ z]
/-- all of a tree -/
theorem mkt (G : BG N g x l w σ0) (hm : Nmk l w) {rt : Int32} : ∀ {T : Tr}, Wf w T → ∀ (p : Int32) (cs : List Nat) (J : List (Int32 × Nat × Nat)) (n : Nat) (D : Nat → Nat → Int32) (σ : st_S), BQ g x l w σ0 σ (jbs p T ++ J) n D → Par D n p cs → (p = -1 → lev T ≤ 6) → 3 * (J.length + (ew T - bw T)) ≤ 49800 → n + rln T < 20000 → ∃ σ' D' c, c ≤ ew T - bw T ∧ (∀ f, L_168 N g x (f + c) rt σ = L_168 N g x f rt σ') ∧ BQ g x l w σ0 σ' J (n + rln T) D' ∧ Bp l w Vw D D' T n p cs := by
  intro T
  induction T with
  | leaf k =>
    intro hw p cs J n D σ hB hp _ hJ hn
    have hB : BQ g x l w σ0 σ ((p, k, k + 1) :: J) n D := hB
    have hJ : 3 * (J.length + (k + 1 - k)) ≤ 49800 := hJ
    have hn : n + 1 < 20000 := hn
    obtain ⟨s3, q1, q2⟩ := L168s (rt := rt) G hB (by omega)
    obtain ⟨σ1, v, b1, b2, b3, b4⟩ := f170_0 (p := p) (cs := cs) G hm hw q1 (by omega) hp
    exact ⟨σ1, _, 1, by show 1 ≤ k + 1 - k; omega, q2 σ1 b1, b2, bp_l (by omega) hp b3 b4⟩
  | branch m l' r il ir =>
    intro hw p cs J n D σ hB hp hp1 hJ hn
    have wd := hw.wd.1
    rcases tcl_4 (m % 64) with ht | ht | ht | ht
    · -- side by side
      have c0 : m % 64 = 20 ∨ m % 64 = 21 ∨ m % 64 = 37 := by
        unfold tcl at ht
        repeat' split at ht
        all_goals first
          | assumption
          | omega
      rw [jbs_2 c0, List.append_assoc] at hB
      rw [rln_0 ht] at hn ⊢
      have lv : lev (.branch m l' r) = lvo (m % 64) := rfl
      have pn : p ≠ -1 := fun z => by
        have := hp1 z
        rw [lv] at this
        rcases c0 with y | y | y <;> rw [y] at this <;> exact absurd this (by decide)
      obtain ⟨k, rfl, hk, y3, y4, y5⟩ : ∃ k, p = nI k ∧ k < n ∧ Pk D (D k 4) cs ∧ (∀ x ∈ cs, x < n) ∧ cs.Pairwise (· < ·) := by
        rcases hp with z | z
        · exact absurd z pn
        · exact z
      obtain ⟨hl1, hr1, sum⟩ : Wf w l' ∧ Wf w r ∧ (ew l' - bw l') + (ew r - bw r) + 1 = ew (.branch m l' r) - bw (.branch m l' r) := by
        rcases hw.br with ⟨c', -⟩ | ⟨c', -⟩ | ⟨c', -⟩ | ⟨c', -⟩ | ⟨c', h1, h2, h3, h4, -⟩ | ⟨c', -⟩ | ⟨c', h1, h2, h3, h4, -⟩ | ⟨c', -⟩
        · omega
        · omega
        · omega
        · omega
        · have e1 := h1.wd.1
          have e2 := h2.wd.1
          rw [bw_n (by omega), ew_n (by omega)]
          exact ⟨h1, h2, by omega⟩
        · omega
        · have e1 := h1.wd.1
          have e2 := h2.wd.1
          rw [bw_n (by omega), ew_n (by omega)]
          exact ⟨h1, h2, by omega⟩
        · have := bin_f c'; omega
      have jl := jbs_len (p := nI k) hr1
      have pr := rln_pos r
      obtain ⟨σ1, D1, c1, a1, a2, a3, a4⟩ := il hl1 (nI k) cs (jbs (nI k) r ++ J) n D σ hB hp (fun z => absurd z pn) (by rw [List.length_append]; omega) (by omega)
      obtain ⟨σ2, D2, c2, b1, b2, b3, b4⟩ := ir hr1 (nI k) (cs ++ rts l' n) J (n + rln l') D1 σ1 a3 (Or.inr ⟨k, rfl, by omega, a4.2.2 k rfl hk, fun z hz => by
        rcases List.mem_append.mp hz with y | y
        · have := y4 z y; omega
        · have := rts_b y; omega, List.pairwise_append.mpr ⟨y5, rts_p l' n, fun a ha b hb => by
          have := y4 a ha
          have := rts_b hb
          omega⟩⟩) (fun z => absurd z pn) (by omega) (by omega)
      refine ⟨σ2, D2, c1 + c2, by omega, fun f => ?_, by rw [← Nat.add_assoc]; exact b3, bp_0 ht (by omega) hk a4 b4⟩
      rw [show f + (c1 + c2) = f + c2 + c1 by omega, a2, b2]
    · -- brackets
      have c1 : m % 64 = 35 := by
        unfold tcl at ht
        repeat' split at ht
        all_goals first
          | assumption
          | omega
      have lv : lev (.branch m l' r) = lvo (m % 64) := rfl
      rw [jbs_1 (show lev (.branch m l' r) ≤ 6 by rw [lv, c1]; decide), List.singleton_append] at hB
      rw [rln_1 ht] at hn ⊢
      obtain ⟨h2, l6, sum⟩ : Wf w r ∧ lev r ≤ 6 ∧ (ew r - bw r) + 2 = ew (.branch m l' r) - bw (.branch m l' r) := by
        rcases hw.br with ⟨c', -⟩ | ⟨c', -⟩ | ⟨c', h1, h2, h3, h4, h5⟩ | ⟨c', -⟩ | ⟨c', -⟩ | ⟨c', -⟩ | ⟨c', -⟩ | ⟨c', -⟩
        · omega
        · omega
        · have e2 := h2.wd.1
          rw [bw_u (by omega), ew_c (by omega)]
          exact ⟨h2, h5, by omega⟩
        · omega
        · omega
        · omega
        · omega
        · have := bin_f c'; omega
      obtain ⟨s3, q1, q2⟩ := L168s (rt := rt) G hB (by omega)
      obtain ⟨σ1, b1, b2⟩ := f170_1 (p := p) G hw c1 q1 (by omega)
      obtain ⟨σ2, D2, c2, d1, d2, d3, d4⟩ := ir h2 p cs J n D σ1 b2 hp (fun _ => l6) (by omega) hn
      refine ⟨σ2, D2, c2 + 1, by omega, fun f => ?_, d3, d4.1, ?_, ?_⟩
      · rw [← Nat.add_assoc, q2 σ1 b1, d2]
      · unfold Rt
        rw [if_neg (by omega), if_pos ht]
        exact d4.2.1
      · rw [rts_1 ht]
        exact d4.2.2
    · -- one part
      have c2 := bw_t (l' := l') (r := r) ht
      have lv : lev (.branch m l' r) = lvo (m % 64) := rfl
      rw [jbs_1 (show lev (.branch m l' r) ≤ 6 by rw [lv]; rcases c2 with z | z | z <;> rw [z] <;> decide), List.singleton_append] at hB
      rw [rln_2 ht] at hn ⊢
      obtain ⟨h2, sum⟩ : Wf w r ∧ (ew r - bw r) + 1 ≤ ew (.branch m l' r) - bw (.branch m l' r) := by
        rcases hw.br with ⟨c', h1, h2, h3, -⟩ | ⟨c', h1, h2, h3, -⟩ | ⟨c', -⟩ | ⟨c', h1, h2, h3, h4, -⟩ | ⟨c', -⟩ | ⟨c', -⟩ | ⟨c', -⟩ | ⟨c', -⟩
        · have e2 := h2.wd.1
          rw [bw_u (by omega), ew_n (by omega)]
          exact ⟨h2, by omega⟩
        · have e2 := h2.wd.1
          rw [bw_u (by omega), ew_n (by omega)]
          exact ⟨h2, by omega⟩
        · omega
        · have e2 := h3.wd.1
          rw [bw_u (by omega), ew_c (by omega)]
          exact ⟨h3, by omega⟩
        · omega
        · omega
        · omega
        · have := bin_f c'; omega
      obtain ⟨s3, q1, q2⟩ := L168s (rt := rt) G hB (by omega)
      obtain ⟨σ1, b1, b2⟩ := f170_2 (p := p) (cs := cs) G hw c2 q1 (by omega) hp (by omega)
      obtain ⟨j1, j2, j3⟩ := jnd_n (rw0 := nrw w (nso w m) (m / 64) (bw (.branch m l' r)) 0) (show n < 40000 by omega) hp rfl
      obtain ⟨σ2, D2, c', d1, d2, d3, d4⟩ := ir h2 (nI n) [] J (n + 1) _ σ1 b2 (Or.inr ⟨n, rfl, by omega, by rw [j2]; rfl, fun z hz => (by cases hz), List.Pairwise.nil⟩) (fun z => absurd z (nI_ne1 (by omega))) (by omega) (by omega)
      refine ⟨σ2, D2, c' + 1, by omega, fun f => ?_, by rw [show n + (rln r + 1) = n + 1 + rln r by omega]; exact d3, bp_2 ht (by omega) hp d4⟩
      rw [← Nat.add_assoc, q2 σ1 b1, d2]
    · -- two parts or three
      obtain ⟨c3, h1, h2, sum, s9, l6⟩ : (m % 64 = 19 ∨ bin (m % 64) = true) ∧ Wf w l' ∧ Wf w r ∧ (ew l' - bw l') + (ew r - bw r) + 1 = ew (.branch m l' r) - bw (.branch m l' r) ∧ nso w m = kK w (m / 64) ∧ lev (.branch m l' r) ≤ 6 := by
        have lv : lev (.branch m l' r) = lvo (m % 64) := rfl
        have no : ∀ {P : Prop}, tcl (m % 64) ≠ 3 → P := fun z => absurd ht z
        rcases hw.br with ⟨c', -⟩ | ⟨c', -⟩ | ⟨c', -⟩ | ⟨c', -⟩ | ⟨c', -⟩ | ⟨c', h1, h2, h3, h4, h5, -⟩ | ⟨c', -⟩ | ⟨c', h1, h2, h3, h4, h5, -⟩
        · exact no (by rw [c']; decide)
        · exact no (by rw [c']; decide)
        · exact no (by rw [c']; decide)
        · exact no (by rw [c']; decide)
        · exact no (by rcases c' with z | z <;> rw [z] <;> decide)
        · have e1 := h1.wd.1
          have e2 := h2.wd.1
          rw [bw_n (by omega), ew_n (by omega), lv]
          exact ⟨Or.inl c', h1, h2, by omega, if_neg (by omega), by rw [c']; decide⟩
        · exact no (by rw [c']; decide)
        · have e1 := h1.wd.1
          have e2 := h2.wd.1
          have bf := bin_f c'
          rw [bw_n (by omega), ew_n (by omega), lv]
          exact ⟨Or.inr c', h1, h2, by omega, if_neg (by omega), by have := (lvo_b c').2.2.1; omega⟩
      rw [jbs_1 l6, List.singleton_append] at hB
      rw [rln_3 ht] at hn ⊢
      have e1 := h1.wd.1
      have e2 := h2.wd.1
      obtain ⟨s3, q1, q2⟩ := L168s (rt := rt) G hB (by omega)
      obtain ⟨σ1, b1, b2⟩ := f170_3 (p := p) (cs := cs) G hw c3 q1 (by omega) hp (by omega)
      obtain ⟨j1, j2, j3⟩ := jnd_n (rw0 := nrw w (kK w (m / 64)) (m / 64) (bw (.branch m l' r)) 0) (show n < 40000 by omega) hp rfl
      have jl := jbs_len (p := nI n) h2
      have pr := rln_pos r
      obtain ⟨σ2, D2, c', d1, d2, d3, d4⟩ := il h1 (nI n) [] (jbs (nI n) r ++ J) (n + 1) _ σ1 b2 (Or.inr ⟨n, rfl, by omega, by rw [j2]; rfl, fun z hz => (by cases hz), List.Pairwise.nil⟩) (fun z => absurd z (nI_ne1 (by omega))) (by rw [List.length_append]; omega) (by omega)
      obtain ⟨σ3, D3, c'', k1, k2, k3, k4⟩ := ir h2 (nI n) (rts l' (n + 1)) J (n + 1 + rln l') D2 σ2 d3 (Or.inr ⟨n, rfl, by omega, by have := d4.2.2 n rfl (by omega); rw [List.nil_append] at this; exact this, fun z hz => by have := rts_b hz; omega, rts_p l' (n + 1)⟩) (fun z => absurd z (nI_ne1 (by omega))) (by omega) (by omega)
      refine ⟨σ3, D3, c'' + c' + 1, by omega, fun f => ?_, by rw [show n + (rln l' + rln r + 1) = n + 1 + rln l' + rln r by omega]; exact k3, bp_3 ht s9 (by omega) hp d4 k4⟩
      rw [show f + (c'' + c' + 1) = f + c'' + c' + 1 by omega, q2 σ1 b1, d2, k2]
/-- a tree of words is made -/
theorem F168 (G : BG N g x l w σ0) (hm : Nmk l w) {T : Tr} (hw : Wf w T) (hl6 : lev T ≤ 6) {σ : st_S} {J : List (Int32 × Nat × Nat)} {n : Nat} {D : Nat → Nat → Int32} (h : BQ g x l w σ0 σ J n D) (hn : n + rln T < 20000) : ∃ σ' D', F_168 N g x (nI (bw T)) (nI (ew T)) σ = some (nI n, σ') ∧ BQ g x l w σ0 σ' [] (n + rln T) D' ∧ (∀ i, i < n → D' i = D i) ∧ Rt l w Vw D' T n (-1) := by
  have G' := G
  obtain ⟨hg, hx, hN, h40, hl, hq, hl2⟩ := G
  obtain ⟨el, bl⟩ := ew_le hw
  have b0 : BQ g x l w σ0 (st_i σ 157 1 0) [] n D := by
    obtain ⟨h1, h2, h3, h4, h5⟩ := h
    have fr : Fr 0 [(157, 1)] [] [] [158] [] σ (st_i σ 157 1 0) := Fr.i σ 0 (by simp)
    have ft : FT g σ (st_i σ 157 1 0) := fr.mo (by simp) (by simp) (by simp) (by simp) (by simp)
    exact ⟨Fr.t0 h1 ft, h2.ft hg ft, h3.ft hg hx ft, sk_0 h4, h5.j hg fr⟩
  obtain ⟨s1, a1, a2⟩ := F169 (p := -1) (a := bw T) (b := ew T) G' b0 (by decide)
  obtain ⟨σ2, D2, c, d1, d2, d3, d4⟩ := mkt (rt := nI n) G' hm hw (-1) [] [] n D s1 (by rw [jbs_1 hl6]; exact a2) (Or.inl rfl) (fun _ => hl6) (by rw [List.length_nil]; omega) hn
  refine ⟨σ2, D2, ?_, d3, fun i hi => by rw [d4.1 i hi]; unfold jnd; rw [if_pos rfl], d4.2.1⟩
  have gs : gI σ (g + 1) 1 = nI n := (h.2.2.2.2 0 (by decide)).1
  unfold F_168
  rw [a1, ob_some, gs]
  have := d2 (N - c)
  rw [show N - c + c = N by omega] at this
  rw [this]
  have g0 : gI σ2 157 1 = 0 := d3.2.2.2.1.1.1
  obtain ⟨f, hf⟩ : ∃ f, N - c = f + 1 := ⟨N - c - 1, by omega⟩
  rw [hf]
  unfold L_168
  rw [g0, if_pos (by decide)]
end BL2
