/-! building, with the trees -/
theorem ndd_s (M : Nat → Nat → Int32) (n : Nat) (e : Nat → Int32) : ndd M n e n = e := if_pos rfl
theorem ndd_o (M : Nat → Nat → Int32) {n i : Nat} (e : Nat → Int32) (h : i ≠ n) : ndd M n e i = M i := if_neg h
theorem pat_o (M : Nat → Nat → Int32) {i j c : Nat} (v : Int32) (h : i ≠ j) : pat M j c v i = M i := by
  funext d
  show (if i = j ∧ d = c then v else M i d) = M i d
  rw [if_neg (fun q => h q.1)]
theorem pat_c (M : Nat → Nat → Int32) {j c d : Nat} (v : Int32) (h : d ≠ c) : pat M j c v j d = M j d := by
  show (if j = j ∧ d = c then v else M j d) = M j d
  rw [if_neg (fun q => h q.2)]
theorem pat_s (M : Nat → Nat → Int32) (j c : Nat) (v : Int32) : pat M j c v j c = v := if_pos ⟨rfl, rfl⟩
theorem Nd_new (M : Nat → Nat → Int32) (n op pl : Nat) {x y a b c : Int32} (hx : x = nI op) (hy : y = nI pl) : Nd (ndd M n (nv8 x y a b c)) n op pl a b c := by
  unfold Nd
  rw [ndd_s]
  exact ⟨hx, hy, rfl, rfl, rfl, fun _ => rfl⟩
/-- the latest tree -/
def TT (l : List Int32) (w : List (Nat × Nat × Nat)) (M : Nat → Nat → Int32) (T : Tr) (n1 i1 n i : Nat) (q : Int32) : Prop := Wf w T ∧ bw T = i1 ∧ ew T = i ∧ Co l w M T n1 ∧ n = n1 + tln T ∧ q = nI (n - 1)
theorem hol_op : ∀ a, a < 40 → 1 ≤ hol a → a = 9 ∨ a = 16 ∨ a = 17 ∨ a = 18 ∨ a = 19 ∨ (bin a = true ∧ a ≠ 17 ∧ a ≠ 18 ∧ lim a = lR a) := by decide
theorem bin_no : ∀ a, bin a = true → a < 64 ∧ 4 ≤ a ∧ a ≤ 18 ∧ a ≠ 9 ∧ a ≠ 16 := by
  intro a h
  simp only [bin, Bool.and_eq_true, decide_eq_true_eq, bne_iff_ne] at h
  omega
section GB
variable {l : List Int32} {w : List (Nat × Nat × Nat)} {rs a0 i : Nat}
theorem gb1 {p e : Nat → Int32} {n : Nat} {M : Nat → Nat → Int32} {T L X : Tr} {n0 i0 n1 i1 op k : Nat} (ho : op < 40) (h1 : 1 ≤ hol op) (hE : GE l w M e op k L X n0 i0 n1 i1) (hT : TT l w M T n1 i1 n i (p 13)) (hl : lev T ≤ lim op) (hn : n < 25000) : ∃ T', TT l w (bMM e p n M) T' n0 i0 (n + 1) i (bpp e p n 13) ∧ lev T' = lvo op ∧ (∀ j, j < n0 → bMM e p n M j = M j) := by
  obtain ⟨t1, t2, t3, t4, t5, t6⟩ := hT
  have pT := tln_pos T
  have p13 : bpp e p n 13 = nI n := by
    unfold bpp
    repeat' split
    all_goals rfl
  have e16 : e 0 = 16 ↔ op = 16 := by rw [hE.1]; exact nI_eq (b := 16) (by omega) (by decide)
  have e9 : e 0 = 9 ↔ op = 9 := by rw [hE.1]; exact nI_eq (b := 9) (by omega) (by decide)
  have e19 : e 0 = 19 ↔ op = 19 := by rw [hE.1]; exact nI_eq (b := 19) (by omega) (by decide)
  have lt := hE.le
  have hE' := hE
  obtain ⟨g0, g1, hE⟩ := hE
  have m1 : (-1 : Int32) < 0 := by decide
  rcases hol_op op ho h1 with c | c | c | c | c | ⟨c, c17, c18, cl⟩
  · subst c
    rw [if_pos (Or.inl rfl)] at hE
    obtain ⟨q1, q2, q3, q4, q5⟩ := hE
    have eM : bMM e p n M = ndd M n (nv8 (e 0) (e 1) (p 13) (-1) (-1)) := by
      unfold bMM bnd
      rw [q5, if_pos m1, if_neg (fun z => absurd (e16.mp z) (by decide)), if_pos (e9.mpr rfl)]
    have old : ∀ j, j < n → bMM e p n M j = M j := fun j hj => by rw [eM, ndd_o _ _ (by omega)]
    refine ⟨nd 9 k (.leaf 0) T, ⟨?_, ?_, ?_, ?_, ?_, ?_⟩, lev_nd (by decide), fun j hj => old j (by omega)⟩
    · exact (Wf_nd (by decide)).mpr ⟨fun z => absurd z (by decide), t1, fun z => absurd z (by decide), q4, by omega, Nat.le_zero.mp hl⟩
    · rw [bw_nd (by decide)]; exact q1
    · rw [ew_nd (by decide)]; exact t3
    · refine (Code_nd (by decide)).mpr ⟨?_, ?_⟩
      · have : Co l w (bMM e p n M) T n0 := by
          rw [← q2]
          exact t4.fr (fun j a b => old j (by omega))
        exact this
      · rw [eM, show n0 + tln T = n by omega]
        have := Nd_new M n 9 (kP w k) (a := p 13) (b := -1) (c := -1) g0 g1
        rw [t6] at this ⊢
        exact this
    · rw [tln_nd (by decide)]; show n + 1 = n0 + (tln T + 1); omega
    · rw [p13]; rfl
  · subst c
    rw [if_pos (Or.inr (Or.inl rfl))] at hE
    obtain ⟨q1, q2, q3, q4, q5⟩ := hE
    have eM : bMM e p n M = ndd M n (nv8 (e 0) (e 1) (p 13) (-1) (-1)) := by
      unfold bMM bnd
      rw [q5, if_pos m1, if_pos (e16.mpr rfl)]
    have old : ∀ j, j < n → bMM e p n M j = M j := fun j hj => by rw [eM, ndd_o _ _ (by omega)]
    refine ⟨nd 16 k (.leaf 0) T, ⟨?_, ?_, ?_, ?_, ?_, ?_⟩, lev_nd (by decide), fun j hj => old j (by omega)⟩
    · exact (Wf_nd (by decide)).mpr ⟨fun z => absurd z (by decide), t1, fun z => absurd z (by decide), q4, by omega, hl⟩
    · rw [bw_nd (by decide)]; exact q1
    · rw [ew_nd (by decide)]; exact t3
    · refine (Code_nd (by decide)).mpr ⟨?_, ?_⟩
      · have : Co l w (bMM e p n M) T n0 := by
          rw [← q2]
          exact t4.fr (fun j a b => old j (by omega))
        exact this
      · rw [eM, show n0 + tln T = n by omega]
        have := Nd_new M n 16 (kP w k) (a := p 13) (b := -1) (c := -1) g0 g1
        rw [t6] at this ⊢
        exact this
    · rw [tln_nd (by decide)]; show n + 1 = n0 + (tln T + 1); omega
    · rw [p13]; rfl
  · subst c
    rw [if_neg (by decide), if_neg (by decide), if_pos (Or.inr (Or.inl rfl))] at hE
    obtain ⟨x1, x2, x3, x4, x5, y1, y2, y3, y4, y5, y6, y7⟩ := hE
    have pL := tln_pos L
    have cl : (e 4).toNatClampNeg = n0 + tln L := by rw [y5]; exact nI_clamp (by omega)
    have e40 : ¬ e 4 < 0 := by rw [y5]; exact nI_pos (by omega)
    have eM : bMM e p n M = pat (ndd M n (nv8 (e 0) (e 1) (e 2) (p 13) (-1))) (n0 + tln L) 4 (nI n) := by
      unfold bMM bnd
      rw [if_neg e40, cl, if_neg (fun z => absurd (e16.mp z) (by decide)), if_neg (fun z => absurd (e9.mp z) (by decide)), if_neg (fun z => absurd (e19.mp z) (by decide))]
    have old : ∀ j, j < n → j ≠ n0 + tln L → bMM e p n M j = M j := fun j hj hj2 => by rw [eM, pat_o _ _ hj2, ndd_o _ _ (by omega)]
    refine ⟨nd 17 k L T, ⟨?_, ?_, ?_, ?_, ?_, ?_⟩, lev_nd (by decide), fun j hj => old j (by omega) (by omega)⟩
    · exact (Wf_nd (by decide)).mpr ⟨fun _ => x1, t1, fun z => absurd z (by decide), rfl, y2, x3, by omega, y1, hl⟩
    · rw [bw_nd (by decide)]; exact x2
    · rw [ew_nd (by decide)]; exact t3
    · refine (Code_nd (by decide)).mpr ⟨?_, ⟨?_, ?_, ?_⟩, ?_, ?_⟩
      · exact Co.fr x4 (fun j a b => old j (by omega) (by omega))
      · rw [eM, pat_c _ _ (by decide), ndd_o _ _ (by omega)]; exact y3
      · rw [eM, pat_c _ _ (by decide), ndd_o _ _ (by omega)]; exact y4
      · rw [eM, pat_s, show n0 + tln L + 1 + tln T = n by omega]
      · have : Co l w (bMM e p n M) T n1 := t4.fr (fun j a b => old j (by omega) (by omega))
        rw [y6] at this
        exact this
      · rw [show n0 + tln L + 1 + tln T = n by omega]
        refine Nd.fr (M := ndd M n (nv8 (e 0) (e 1) (e 2) (p 13) (-1))) ?_ (by rw [eM, pat_o _ _ (by omega)])
        rw [← x5, show n0 + tln L + tln T = n - 1 by omega, ← t6]
        exact Nd_new M n 17 (kP w k) g0 g1
    · rw [tln_nd (by decide)]; show n + 1 = n0 + (tln L + tln T + 2); omega
    · rw [p13]; rfl
  · subst c
    rw [if_neg (by decide), if_neg (by decide), if_pos (Or.inr (Or.inr rfl))] at hE
    obtain ⟨x1, x2, x3, x4, x5, y1, y2, y3, y4, y5, y6, y7⟩ := hE
    have pL := tln_pos L
    have cl : (e 4).toNatClampNeg = n0 + tln L := by rw [y5]; exact nI_clamp (by omega)
    have e40 : ¬ e 4 < 0 := by rw [y5]; exact nI_pos (by omega)
    have eM : bMM e p n M = pat (ndd M n (nv8 (e 0) (e 1) (e 2) (p 13) (-1))) (n0 + tln L) 4 (nI n) := by
      unfold bMM bnd
      rw [if_neg e40, cl, if_neg (fun z => absurd (e16.mp z) (by decide)), if_neg (fun z => absurd (e9.mp z) (by decide)), if_neg (fun z => absurd (e19.mp z) (by decide))]
    have old : ∀ j, j < n → j ≠ n0 + tln L → bMM e p n M j = M j := fun j hj hj2 => by rw [eM, pat_o _ _ hj2, ndd_o _ _ (by omega)]
    refine ⟨nd 18 k L T, ⟨?_, ?_, ?_, ?_, ?_, ?_⟩, lev_nd (by decide), fun j hj => old j (by omega) (by omega)⟩
    · exact (Wf_nd (by decide)).mpr ⟨fun _ => x1, t1, fun z => absurd z (by decide), rfl, y2, x3, by omega, y1, hl⟩
    · rw [bw_nd (by decide)]; exact x2
    · rw [ew_nd (by decide)]; exact t3
    · refine (Code_nd (by decide)).mpr ⟨?_, ⟨?_, ?_, ?_⟩, ?_, ?_⟩
      · exact Co.fr x4 (fun j a b => old j (by omega) (by omega))
      · rw [eM, pat_c _ _ (by decide), ndd_o _ _ (by omega)]; exact y3
      · rw [eM, pat_c _ _ (by decide), ndd_o _ _ (by omega)]; exact y4
      · rw [eM, pat_s, show n0 + tln L + 1 + tln T = n by omega]
      · have : Co l w (bMM e p n M) T n1 := t4.fr (fun j a b => old j (by omega) (by omega))
        rw [y6] at this
        exact this
      · rw [show n0 + tln L + 1 + tln T = n by omega]
        refine Nd.fr (M := ndd M n (nv8 (e 0) (e 1) (e 2) (p 13) (-1))) ?_ (by rw [eM, pat_o _ _ (by omega)])
        rw [← x5, show n0 + tln L + tln T = n - 1 by omega, ← t6]
        exact Nd_new M n 18 (kP w k) g0 g1
    · rw [tln_nd (by decide)]; show n + 1 = n0 + (tln L + tln T + 2); omega
    · rw [p13]; rfl
  · subst c
    rw [if_neg (by decide), if_neg (by decide), if_neg (by decide), if_pos rfl] at hE
    obtain ⟨x1, x2, x3, x4, x5, y1, y2, y3, y4, y5, y6, y7, y8, y9, z1, z2, z3, z4, z5⟩ := hE
    have pL := tln_pos L
    have pX := tln_pos X
    have cl : (e 4).toNatClampNeg = n0 + tln L + 1 + tln X := by rw [z3]; exact nI_clamp (by omega)
    have e40 : ¬ e 4 < 0 := by rw [z3]; exact nI_pos (by omega)
    have eM : bMM e p n M = pat (ndd M n (nv8 (e 0) (e 1) (e 2) (e 3) (p 13))) (n0 + tln L + 1 + tln X) 4 (nI n) := by
      unfold bMM bnd
      rw [if_neg e40, cl, if_neg (fun z => absurd (e16.mp z) (by decide)), if_neg (fun z => absurd (e9.mp z) (by decide)), if_pos (e19.mpr rfl)]
    have old : ∀ j, j < n → j ≠ n0 + tln L + 1 + tln X → bMM e p n M j = M j := fun j hj hj2 => by rw [eM, pat_o _ _ hj2, ndd_o _ _ (by omega)]
    have tp : tln (nd 37 0 X T) = tln X + tln T + 1 := by rw [tln_nd (by decide)]; rfl
    have fp : fln (nd 37 0 X T) = tln X := rfl
    have hl6 : lev T ≤ 6 := hl
    refine ⟨nd 19 k L (nd 37 0 X T), ⟨?_, ?_, ?_, ?_, ?_, ?_⟩, lev_nd (by decide), fun j hj => old j (by omega) (by omega)⟩
    · have wp : Wf w (nd 37 0 X T) := (Wf_nd (by decide)).mpr ⟨fun _ => y4, t1, fun z => absurd z (by decide), y7, by omega, y5, hl6⟩
      refine (Wf_nd (by decide)).mpr ⟨fun _ => x1, wp, fun z => absurd z (by decide), y2, x3, ?_, y1, ?_⟩
      · rw [bw_nd (by decide)]; exact y6
      · rw [lev_nd (by decide)]; rfl
    · rw [bw_nd (by decide)]; exact x2
    · rw [ew_nd (by decide), if_neg (by decide), ew_nd (by decide)]; exact t3
    · refine (Code_nd (by decide)).mpr ⟨?_, ?_, ?_, ?_⟩
      · exact Co.fr x4 (fun j a b => old j (by omega) (by omega))
      · rw [fp]
        exact y3.fr (old _ (by omega) (by omega))
      · refine (Code_nd (by decide)).mpr ⟨?_, ⟨?_, ?_, ?_⟩, ?_⟩
        · exact Co.fr y8 (fun j a b => old j (by omega) (by omega))
        · rw [eM, pat_c _ _ (by decide), ndd_o _ _ (by omega)]; exact y9
        · rw [eM, pat_c _ _ (by decide), ndd_o _ _ (by omega)]; exact z1
        · rw [eM, pat_s, show n0 + tln L + 1 + tln X + 1 + tln T = n by omega]
        · have : Co l w (bMM e p n M) T n1 := t4.fr (fun j a b => old j (by omega) (by omega))
          rw [z4] at this
          exact this
      · rw [tp, fp, show n0 + tln L + 1 + (tln X + tln T + 1) = n by omega]
        refine Nd.fr (M := ndd M n (nv8 (e 0) (e 1) (e 2) (e 3) (p 13))) ?_ (by rw [eM, pat_o _ _ (by omega)])
        rw [← x5, ← z2, show n0 + tln L + (tln X + tln T + 1) = n - 1 by omega, ← t6]
        exact Nd_new M n 19 (kP w k) g0 g1
    · rw [tln_nd (by decide), tp]; show n + 1 = n0 + (tln L + (tln X + tln T + 1) + 2); omega
    · rw [p13]; rfl
  · obtain ⟨b1, b2, b3, b4, b5⟩ := bin_no op c
    have un0 : un op = false := by simp [un]; omega
    rw [if_neg (by omega), if_neg (by omega), if_neg (by omega), if_neg (by omega)] at hE
    obtain ⟨x1, x2, x3, x4, x5, y1, y2, y3, y4, y5, y6⟩ := hE
    have pL := tln_pos L
    have eM : bMM e p n M = ndd M n (nv8 (e 0) (e 1) (e 2) (p 13) (-1)) := by
      unfold bMM bnd
      rw [y4, if_pos m1, if_neg (fun z => b5 (e16.mp z)), if_neg (fun z => b4 (e9.mp z)), if_neg (fun z => by have := e19.mp z; omega)]
    have old : ∀ j, j < n → bMM e p n M j = M j := fun j hj => by rw [eM, ndd_o _ _ (by omega)]
    refine ⟨nd op k L T, ⟨?_, ?_, ?_, ?_, ?_, ?_⟩, lev_nd b1, fun j hj => old j (by omega)⟩
    · refine (Wf_nd b1).mpr ⟨fun _ => x1, t1, fun z => by omega, ?_⟩
      unfold wfn
      rw [if_neg b4, if_neg b5, if_neg (by omega), if_neg (by omega), if_neg (by omega), if_neg (by omega), if_neg (by omega)]
      exact ⟨c, y3, x3, by omega, y2, by omega⟩
    · rw [bw_nd b1, un0, if_neg Bool.false_ne_true]; exact x2
    · rw [ew_nd b1, if_neg (by omega)]; exact t3
    · refine (Code_nd b1).mpr ?_
      rw [if_neg (by omega), if_neg (by omega), if_neg (by omega), if_neg (by omega), if_neg (by omega)]
      refine ⟨?_, ?_, ?_⟩
      · exact Co.fr x4 (fun j a b => old j (by omega))
      · have : Co l w (bMM e p n M) T n1 := t4.fr (fun j a b => old j (by omega))
        rw [y5] at this
        exact this
      · rw [eM, show n0 + tln L + tln T = n by omega, ← x5, ← t6]
        exact Nd_new M n op (kP w k) g0 g1
    · rw [tln_nd b1, lnc_4 (by omega) (by omega) (by omega)]; omega
    · rw [p13]; rfl
/-- what waits is built, with the trees -/
theorem gb {h : Nat} (h1 : 1 ≤ h) (h9 : h < 9) (v : Nat) : ∀ (W : List (Nat → Int32)) (G : List Gh) (p : Nat → Int32) (n : Nat) (M : Nat → Nat → Int32) (T : Tr) (n1 i1 : Nat), GS l w M rs a0 W G n1 i1 → TT l w M T n1 i1 n i (p 13) → (∃ j, okS (G.map fun g => g.1) j = true) → sm (G.map fun g => g.1) = true → lev T ≤ limS (G.map fun g => g.1) → lev T ≤ lvh h → n + W.length < 25000 → ∃ p' W' n' M' G' T' n1' i1', xb (nI h) W p n M = (p', W', n', M') ∧ GS l w M' rs a0 W' G' n1' i1' ∧ TT l w M' T' n1' i1' n' i (p' 13) ∧ (G'.map fun g => g.1) = (bl h v (G.map fun g => g.1)).2 ∧ lev T' ≤ lvh h ∧ lev T' ≤ limS (G'.map fun g => g.1) ∧ (∀ j, j < rs → M' j = M j) ∧ n' + W'.length ≤ n + W.length ∧ n ≤ n' := by
  have blv : ∀ (s : List Nat) (v v' : Nat), (bl h v s).2 = (bl h v' s).2 := by
    intro s
    induction s with
    | nil => intro v v'; rfl
    | cons a s ih =>
      intro v v'
      have e : ∀ v, bl h v (a :: s) = if h ≤ hol a then bl h (if a = 9 ∨ a = 16 ∨ a = 19 then v - 1 else v) s else (v, a :: s) := fun _ => rfl
      rw [e, e]
      by_cases c : h ≤ hol a
      · rw [if_pos c, if_pos c]; exact ih _ _
      · rw [if_neg c, if_neg c]
  intro W
  induction W with
  | nil =>
    intro G p n M T n1 i1 hG hT hk hs hl hh hn
    cases G with
    | nil => exact ⟨p, [], n, M, [], T, n1, i1, rfl, hG, hT, rfl, hh, hl, fun _ _ => rfl, Nat.le_refl _, Nat.le_refl _⟩
    | cons g G => exact hG.elim
  | cons e W ih =>
    intro G p n M T n1 i1 hG hT hk hs hl hh hn
    cases G with
    | nil => exact hG.elim
    | cons g G =>
      obtain ⟨op, k, L, X⟩ := g
      have hG' := hG
      obtain ⟨n0, i0, hG0, hE⟩ := hG
      have hs : (decide (op < 40) && sm (G.map fun g => g.1)) = true := hs
      obtain ⟨s1, s2⟩ := Bool.and_eq_true_iff.mp hs
      have ho : op < 40 := of_decide_eq_true s1
      have hn : n + (W.length + 1) < 25000 := hn
      have ex : xb (nI h) (e :: W) p n M = if hI (e 0) < nI h then (p, e :: W, n, M) else xb (nI h) W (bpp e p n) (n + 1) (bMM e p n M) := rfl
      have eb : bl h v (op :: G.map fun g => g.1) = if h ≤ hol op then bl h (if op = 9 ∨ op = 16 ∨ op = 19 then v - 1 else v) (G.map fun g => g.1) else (v, op :: G.map fun g => g.1) := rfl
      have e0 : hI (e 0) = nI (hol op) := by rw [hE.1]; exact hI_nI op ho
      have h8 := hol_le op
      show ∃ p' W' n' M' G' T' n1' i1', xb (nI h) (e :: W) p n M = (p', W', n', M') ∧ GS l w M' rs a0 W' G' n1' i1' ∧ TT l w M' T' n1' i1' n' i (p' 13) ∧ (G'.map fun g => g.1) = (bl h v (op :: G.map fun g => g.1)).2 ∧ lev T' ≤ lvh h ∧ lev T' ≤ limS (G'.map fun g => g.1) ∧ (∀ j, j < rs → M' j = M j) ∧ n' + W'.length ≤ n + (W.length + 1) ∧ n ≤ n'
      rw [ex, eb, e0]
      by_cases c : h ≤ hol op
      · rw [if_neg (fun q => by have := (nI_lti (by omega) (by omega)).mp q; omega), if_pos c]
        obtain ⟨T', t1, t2, t3⟩ := gb1 (p := p) ho (by omega) hE hT hl (by omega)
        obtain ⟨j0, hk⟩ := hk
        have hk : okS (op :: G.map fun g : Gh => g.1) j0 = true := hk
        have q1 := okS_lim hk ho s2 (Nat.le_trans h1 c)
        have q2 := lvh_ok op ho h h9 h1 c
        have hle := hG0.le
        obtain ⟨p', W', n', M', G', T'', n1', i1', z1, z2, z3, z4, z5, z6, z7, z8, z9⟩ := ih G (bpp e p n) (n + 1) (bMM e p n M) T' n0 i0 (hG0.fr fun j _ b => t3 j b) t1 ⟨nxt op, (okS_c hk).2.2⟩ s2 (by rw [t2]; exact q1) (by rw [t2]; exact q2) (by omega)
        refine ⟨p', W', n', M', G', T'', n1', i1', z1, z2, z3, z4.trans (blv _ _ _), z5, z6, fun j hj => (z7 j hj).trans (t3 j (by omega)), by omega, by omega⟩
      · rw [if_pos ((nI_lti (by omega) (by omega)).mpr (by omega)), if_neg c]
        exact ⟨p, e :: W, n, M, (op, k, L, X) :: G, T, n1, i1, rfl, hG', hT, rfl, hh, hl, fun _ _ => rfl, Nat.le_refl _, Nat.le_refl _⟩
end GB
