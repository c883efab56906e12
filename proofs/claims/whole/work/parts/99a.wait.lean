/-! the class's parser: what waits, the nodes; pure, and in the store -/
/-- fields of the parser, what waits (top first: operation, place, left, middle, jump), how many nodes, the nodes -/
abbrev Xs : Type := (Nat → Int32) × List (Nat → Int32) × Nat × (Nat → Nat → Int32)
def up (p : Nat → Int32) (k : Nat) (v : Int32) : Nat → Int32 := fun j => if j = k then v else p j
theorem up_s (p : Nat → Int32) (k : Nat) (v : Int32) : up p k v k = v := if_pos rfl
theorem up_o (p : Nat → Int32) {k j : Nat} (v : Int32) (h : j ≠ k) : up p k v j = p j := if_neg h
def ndd (M : Nat → Nat → Int32) (n : Nat) (e : Nat → Int32) : Nat → Nat → Int32 := fun i => if i = n then e else M i
def pat (M : Nat → Nat → Int32) (i c : Nat) (v : Int32) : Nat → Nat → Int32 := fun j d => if j = i ∧ d = c then v else M j d
def ent (x1 x2 x3 x4 x5 : Int32) (c : Nat) : Int32 := if c = 0 then x1 else if c = 1 then x2 else if c = 2 then x3 else if c = 3 then x4 else x5
/-- the waiting entries stand in the arrays -/
def Wa (σ : st_S) : List (Nat → Int32) → Prop
  | [] => True
  | e :: W => (∀ c, c < 5 → gE σ (37 + c) W.length = e c) ∧ Wa σ W
theorem Wa.fr {σ σ' : st_S} : ∀ {W : List (Nat → Int32)}, (∀ c, c < 5 → ∀ i, i < W.length → gE σ' (37 + c) i = gE σ (37 + c) i) → Wa σ W → Wa σ' W := by
  intro W
  induction W with
  | nil => intro _ _; trivial
  | cons e W ih =>
    intro h q
    exact ⟨fun c hc => (h c hc W.length (Nat.lt_succ_self _)).trans (q.1 c hc), ih (fun c hc i hi => h c hc i (Nat.lt_succ_of_lt hi)) q.2⟩
/-- the parser's state stands in the store -/
def SI (σ : st_S) (t L : Nat) (X : Xs) : Prop := (∀ k, 8 ≤ k → k ≤ 16 → gI σ 36 k = X.1 k) ∧ gI σ 36 6 = nI X.2.1.length ∧ X.2.1.length ≤ 256 ∧ (∀ c, c < 5 → gN σ (37 + c) = 256) ∧ Wa σ X.2.1 ∧ Cd σ t X.2.2.1 L ∧ (∀ c, c < 8 → ∀ i, i < X.2.2.1 → gE σ (t + 2 + c) i = X.2.2.2 i c)
/-- what the parser may change -/
abbrev FP (t : Nat) (σ σ' : st_S) : Prop := Fr 0 [(36, 6), (36, 8), (36, 9), (36, 10), (36, 11), (36, 12), (36, 13), (36, 14), (36, 15), (36, 16), (t + 1, 8)] [] [] [37, 38, 39, 40, 41, t + 2, t + 3, t + 4, t + 5, t + 6, t + 7, t + 8, t + 9] [] σ σ'
theorem c5 {c : Nat} (h : c < 5) : c = 0 ∨ c = 1 ∨ c = 2 ∨ c = 3 ∨ c = 4 := by omega
theorem ne37 {t c d : Nat} (ht : t = 4 ∨ t = 20) (hc : c < 5) (hd : d < 8) : 37 + c ≠ t + 2 + d := by omega
theorem ine {t c : Nat} (ht : t = 4 ∨ t = 20) (hc : c < 5) : 37 + c ∉ [t + 2, t + 3, t + 4, t + 5, t + 6, t + 7, t + 8, t + 9] := by
  intro h
  simp only [List.mem_cons, List.not_mem_nil, or_false] at h
  omega
theorem FE.fp {t : Nat} {σ σ' : st_S} (h : FE t σ σ') : FP t σ σ' := h.mo (by simp) (by simp) (by simp) (by intro a q; simp only [List.mem_cons, List.not_mem_nil, or_false] at q ⊢; omega) (by simp)
/-- a field of the parser is set -/
theorem SI.i {σ : st_S} {t L k : Nat} {p : Nat → Int32} {Y : List (Nat → Int32) × Nat × (Nat → Nat → Int32)} (ht : t = 4 ∨ t = 20) (h : SI σ t L (p, Y)) (hk : k ≠ 6) (v : Int32) : SI (st_i σ 36 k v) t L (up p k v, Y) := by
  obtain ⟨h1, h2, h3, h4, h5, h6, h7⟩ := h
  refine ⟨fun j a b => ?_, ?_, h3, h4, Wa.fr (σ := σ) (fun _ _ _ _ => rfl) h5, ⟨?_, h6.2⟩, h7⟩
  · rw [gI_i]
    show _ = if j = k then v else p j
    by_cases c : j = k
    · rw [if_pos ⟨rfl, c⟩, if_pos c]
    · rw [if_neg (fun q => c q.2), if_neg c]; exact h1 j a b
  · rw [gI_i, if_neg (fun q => hk q.2.symm)]; exact h2
  · rw [gI_i, if_neg (fun q => by omega)]; exact h6.1
/-- a field of a node is set -/
theorem SI.n {σ : st_S} {t L i c : Nat} {X : Xs} (ht : t = 4 ∨ t = 20) (h : SI σ t L X) (hc : c < 8) (v : Int32) : SI (st_e σ (t + 2 + c) i v) t L (X.1, X.2.1, X.2.2.1, pat X.2.2.2 i c v) := by
  obtain ⟨h1, h2, h3, h4, h5, h6, h7⟩ := h
  refine ⟨h1, h2, h3, h4, h5.fr fun d hd j _ => ?_, h6, fun d hd j hj => ?_⟩
  · exact st_u_a _ _ _ _ (ne37 ht hd hc)
  · show st_u (gE σ) (t + 2 + c) i v (t + 2 + d) j = if j = i ∧ d = c then v else X.2.2.2 j d
    unfold st_u
    by_cases e : j = i ∧ d = c
    · rw [if_pos e, if_pos ⟨by omega, e.1⟩]
    · rw [if_neg e, if_neg (fun q => e ⟨q.2, by omega⟩)]
      exact h7 d hd j hj
/-- a node is added -/
def xem (x1 x2 x3 x4 x5 : Int32) (X : Xs) : Xs := (X.1, X.2.1, X.2.2.1 + 1, ndd X.2.2.2 X.2.2.1 (nv8 x1 x2 x3 x4 x5))
theorem E30 {N t L : Nat} {σ : st_S} {X : Xs} (ht : t = 4 ∨ t = 20) (x1 x2 x3 x4 x5 : Int32) (h : SI σ t L X) (hn : X.2.2.1 < 50000) (hq : gC σ + 200 < vz_M0) : ∃ σ' L', F_30 N t x1 x2 x3 x4 x5 σ = some (nI X.2.2.1, σ') ∧ SI σ' t L' (xem x1 x2 x3 x4 x5 X) ∧ FE t σ σ' ∧ L' ≤ max L (2 * X.2.2.1) := by
  obtain ⟨h1, h2, h3, h4, h5, h6, h7⟩ := h
  obtain ⟨σ', L', e1, e2, e3, e4, e5⟩ := F30 (N := N) ht x1 x2 x3 x4 x5 h6 hn hq
  have k36 : ∀ k, gI σ' 36 k = gI σ 36 k := fun k => e4.1 36 k (by simp only [List.mem_cons, List.not_mem_nil, or_false, Prod.mk.injEq]; omega)
  refine ⟨σ', L', e1, ⟨fun k a b => (k36 k).trans (h1 k a b), (k36 6).trans h2, h3, fun c hc => ?_, h5.fr fun c hc i _ => ?_, e2, fun c hc i hi => ?_⟩, e4, e5⟩
  · rw [(e4.2.2.2.1 _ (ine ht hc)).1]; exact h4 c hc
  · rw [(e4.2.2.2.1 _ (ine ht hc)).2]
  · have hi : i < X.2.2.1 + 1 := hi
    rw [e3 c hc i (by omega)]
    show _ = ndd X.2.2.2 X.2.2.1 (nv8 x1 x2 x3 x4 x5) i c
    unfold ndd
    by_cases q : i = X.2.2.1
    · rw [if_pos q, if_pos q]
    · rw [if_neg q, if_neg q]
      exact h7 c hc i (by omega)
/-- how strongly an operation holds -/
def hI (x : Int32) : Int32 := if x = 4 then 6 else if x = 5 then 6 else if x = 6 then 7 else if x = 7 then 7 else if x = 8 then 7 else if x = 9 then 8 else if x = 10 then 5 else if x = 11 then 5 else if x = 12 then 5 else if x = 13 then 5 else if x = 14 then 5 else if x = 15 then 5 else if x = 16 then 4 else if x = 17 then 3 else if x = 18 then 2 else if x = 19 then 1 else 0
def hW (W : List (Nat → Int32)) : Int32 := match W with
  | [] => 0
  | e :: _ => hI (e 0)
theorem ite_hI {α : Type} (x : Int32) (f : Int32 → α) : (if x = 4 then f 6 else if x = 5 then f 6 else if x = 6 then f 7 else if x = 7 then f 7 else if x = 8 then f 7 else if x = 9 then f 8 else if x = 10 then f 5 else if x = 11 then f 5 else if x = 12 then f 5 else if x = 13 then f 5 else if x = 14 then f 5 else if x = 15 then f 5 else if x = 16 then f 4 else if x = 17 then f 3 else if x = 18 then f 2 else if x = 19 then f 1 else f 0) = f (hI x) := by
  unfold hI
  simp only [apply_ite f]
theorem top_a {σ : st_S} {t L : Nat} {p : Nat → Int32} {e : Nat → Int32} {W : List (Nat → Int32)} {Z : Nat × (Nat → Nat → Int32)} (h : SI σ t L (p, e :: W, Z)) : gI σ 36 6 - 1 = nI W.length ∧ (∀ c, c < 5 → aB (nI W.length) (gN σ (37 + c))) ∧ (nI W.length).toNatClampNeg = W.length ∧ ∀ c, c < 5 → gE σ (37 + c) W.length = e c := by
  obtain ⟨h1, h2, h3, h4, h5, h6, h7⟩ := h
  have h3 : W.length + 1 ≤ 256 := h3
  have h2 : gI σ 36 6 = nI (W.length + 1) := h2
  refine ⟨?_, fun c hc => ?_, nI_clamp (by omega), h5.1⟩
  · rw [h2]
    exact (nI_sub (a := W.length + 1) (b := 1) (by omega)).trans (congrArg nI (by omega))
  · rw [h4 c hc]; exact aB_nI (by omega) (by decide)
theorem F29 {N t L : Nat} {σ : st_S} {X : Xs} (h : SI σ t L X) : F_29 N σ = some (hW X.2.1, σ) := by
  obtain ⟨p, W, Z⟩ := X
  cases W with
  | nil =>
    have : gI σ 36 6 = 0 := h.2.1
    unfold F_29
    rw [this, if_pos (by decide)]
    rfl
  | cons e W =>
    obtain ⟨a1, a2, a3, a4⟩ := top_a h
    have b0 : aB (nI W.length) (gN σ 37) := a2 0 (by decide)
    have b1 : gE σ 37 W.length = e 0 := a4 0 (by decide)
    have hne : ¬ gI σ 36 6 ≤ 0 := by
      have h2 : gI σ 36 6 = nI (W.length + 1) := h.2.1
      have h3 : W.length + 1 ≤ 256 := h.2.2.1
      rw [h2]
      intro q
      have := (nI_lei (a := W.length + 1) (b := 0) (by omega) (by decide)).mp q
      omega
    unfold F_29
    rw [if_neg hne, a1, if_pos b0, a3, b1]
    exact ite_hI (e 0) (fun z => some (z, σ))
/-- an operation waits -/
def xpush (x1 x2 st : Int32) (X : Xs) : Option Xs := if X.2.1.length < 256 then some (up X.1 8 14, ent x1 st (X.1 13) (-1) x2 :: X.2.1, X.2.2) else none
/-- a test and what it left -/
def Ob (t : Nat) (σ : st_S) (L : Nat) (o : Option Xs) (r : Int32) (σ' : st_S) : Prop := FP t σ σ' ∧ match o with
  | none => r = 0
  | some X' => r = 1 ∧ SI σ' t L X'
theorem F31 {N t L : Nat} {σ : st_S} {X : Xs} (ht : t = 4 ∨ t = 20) (x1 x2 : Int32) (h : SI σ t L X) : ∃ r σ', F_31 N x1 x2 σ = some (r, σ') ∧ Ob t σ L (xpush x1 x2 (gI σ 2 4) X) r σ' := by
  obtain ⟨p, W, n, M⟩ := X
  have h' := h
  obtain ⟨h1, h2, h3, h4, h5, h6, h7⟩ := h
  have h3 : W.length ≤ 256 := h3
  have h2 : gI σ 36 6 = nI W.length := h2
  have e13 : gI σ 36 13 = p 13 := h1 13 (by decide) (by decide)
  unfold F_31 xpush
  dsimp only
  rw [h2]
  by_cases c : W.length < 256
  · have a : ∀ c, c < 5 → aB (nI W.length) (gN σ (37 + c)) := fun d hd => by rw [h4 d hd]; exact aB_nI c (by decide)
    have a0 : aB (nI W.length) (gN σ 37) := a 0 (by decide)
    have a1 : aB (nI W.length) (gN σ 38) := a 1 (by decide)
    have a2 : aB (nI W.length) (gN σ 39) := a 2 (by decide)
    have a3 : aB (nI W.length) (gN σ 40) := a 3 (by decide)
    have a4 : aB (nI W.length) (gN σ 41) := a 4 (by decide)
    have lt : nI W.length < 256 := (nI_lti (b := 256) (by omega) (by decide)).mpr c
    rw [if_pos lt, if_pos a0, if_pos a1, if_pos a2, if_pos a3, if_pos a4, nI_clamp (by omega), e13]
    unfold F_32
    rw [ob_some]
    dsimp only
    rw [if_pos (Or.inr rfl), if_pos c]
    refine ⟨_, _, rfl, ?_, rfl, ?_⟩
    · exact Fr.t0 (Fr.e _ _ _ (by simp)) (Fr.t0 (Fr.e _ _ _ (by simp)) (Fr.t0 (Fr.e _ _ _ (by simp)) (Fr.t0 (Fr.e _ _ _ (by simp)) (Fr.t0 (Fr.e _ _ _ (by simp)) (Fr.t0 (Fr.i _ _ (by simp)) (Fr.i _ _ (by simp)))))))
    · refine SI.i ht (p := p) ?_ (by decide) 14
      refine ⟨fun k b1 b2 => ?_, ?_, ?_, h4, ⟨fun d hd => ?_, ?_⟩, ⟨?_, h6.2⟩, fun d hd i hi => ?_⟩
      · rw [gI_i, if_neg (by omega)]
        exact h1 k b1 b2
      · rw [gI_i, if_pos ⟨rfl, rfl⟩]
        exact nI_1 _
      · show W.length + 1 ≤ 256; omega
      · show st_u (st_u (st_u (st_u (st_u (gE σ) 37 W.length x1) 38 W.length (gI σ 2 4)) 39 W.length (p 13)) 40 W.length (-1)) 41 W.length x2 (37 + d) W.length = _
        rcases c5 hd with rfl | rfl | rfl | rfl | rfl <;> simp [st_u, ent]
      · refine Wa.fr (σ := σ) (fun d hd i hi => ?_) h5
        have hi : i < W.length := hi
        show st_u (st_u (st_u (st_u (st_u (gE σ) 37 W.length x1) 38 W.length (gI σ 2 4)) 39 W.length (p 13)) 40 W.length (-1)) 41 W.length x2 (37 + d) i = _
        have e : i ≠ W.length := by omega
        rw [st_u_k _ _ _ _ e, st_u_k _ _ _ _ e, st_u_k _ _ _ _ e, st_u_k _ _ _ _ e, st_u_k _ _ _ _ e]
      · rw [gI_i, if_neg (by omega)]
        exact h6.1
      · show st_u (st_u (st_u (st_u (st_u (gE σ) 37 W.length x1) 38 W.length (gI σ 2 4)) 39 W.length (p 13)) 40 W.length (-1)) 41 W.length x2 (t + 2 + d) i = _
        rw [st_u_a _ _ _ _ (by omega), st_u_a _ _ _ _ (by omega), st_u_a _ _ _ _ (by omega), st_u_a _ _ _ _ (by omega), st_u_a _ _ _ _ (by omega)]
        exact h7 d hd i hi
  · have nl : ¬ nI W.length < 256 := fun q => c ((nI_lti (b := 256) (by omega) (by decide)).mp q)
    rw [if_neg nl, if_neg c]
    exact ⟨_, _, rfl, Fr.rf σ, rfl⟩
