/-! the class's machine: runs -/
section RUN
variable {N t n : Nat} {l : List Int32} {w : List (Nat × Nat × Nat)} {E : List En} {X fs : Nat → Nat} {vs : Nat → Int32} {m d B : Nat}
/-- a run from the node st to the node e, q steps long; nodes from a to b, and formulas before the m-th, may get values -/
def Rn1 (N t n : Nat) (l : List Int32) (w : List (Nat × Nat × Nat)) (E : List En) (X fs : Nat → Nat) (vs : Nat → Int32) (m d B : Nat) (σ : st_S) (M : Nat → Nat → Int32) (s st e a b q : Nat) (σ' : st_S) (M' : Nat → Nat → Int32) : Prop :=
  (∀ k, L_70 N t (k + q) (nI d) (nI st) (nI B) (nI s) σ = L_70 N t k (nI d) (nI e) (nI B) (nI (s + q)) σ') ∧ MF σ' t n M' l w E X fs ∧ Mtt l w E X fs vs σ' M' ∧ FM t σ σ' ∧ (gE σ' 43 = gE σ 43 ∧ (∀ x, (∀ j, j < m → j < E.length → (E.getD j eN).2.1 = 2 → X j ≠ x) → gE σ' 44 x = gE σ 44 x) ∧ ∀ x, gE σ' 44 x = gE σ 44 x ∨ gE σ' 44 x = gI σ 42 5) ∧ (∀ i, i < d → gE σ' 45 i = gE σ 45 i) ∧
  (∀ i, (i < a ∨ b ≤ i) → (∀ j, j < m → j < E.length → (E.getD j eN).2.1 = 2 → i < fs j ∨ fs j + tln (fTr E j) ≤ i) → M' i = M i) ∧ Sta M M' ∧
  (∀ j, j < E.length → (E.getD j eN).2.1 = 2 → gE σ 44 (X j) = gI σ 42 5 → gE σ' 44 (X j) = gI σ' 42 5) ∧
  (∀ j, j < E.length → (E.getD j eN).2.1 = 2 → gE σ' 44 (X j) = gI σ' 42 5 → gE σ 44 (X j) = gI σ 42 5 ∨ j < m)
def Fl1 (N t n d B : Nat) (σ : st_S) (M : Nat → Nat → Int32) (s st q f p : Nat) (σ' : st_S) (M' : Nat → Nat → Int32) : Prop := (∀ k, L_70 N t (k + q) (nI d) (nI st) (nI B) (nI s) σ = some (nI f, σ')) ∧ gI σ' 42 6 = nI p ∧ FM t σ σ' ∧ CS σ' t n M' ∧ Sta M M' ∧ gE σ' 43 = gE σ 43
theorem FM.r5 {σ σ' : st_S} (h : FM t σ σ') : gI σ' 42 5 = gI σ 42 5 := h.1.1 42 5 (by simp)
theorem Rn1.rf {σ : st_S} {M : Nat → Nat → Int32} {s st a b : Nat} (h : MF σ t n M l w E X fs) (h2 : Mtt l w E X fs vs σ M) : Rn1 N t n l w E X fs vs m d B σ M s st st a b 0 σ M := ⟨fun _ => rfl, h, h2, FM.rf σ, ⟨rfl, fun _ _ => rfl, fun _ => Or.inl rfl⟩, fun _ _ => rfl, fun _ _ _ => rfl, Sta.rf M, fun _ _ _ z => z, fun _ _ _ z => Or.inl z⟩
theorem Rn1.tr {σ σ1 σ2 : st_S} {M M1 M2 : Nat → Nat → Int32} {s st e e2 a b a1 b1 a2 b2 q1 q2 : Nat} (h : Rn1 N t n l w E X fs vs m d B σ M s st e a1 b1 q1 σ1 M1) (h' : Rn1 N t n l w E X fs vs m d B σ1 M1 (s + q1) e e2 a2 b2 q2 σ2 M2) (ha1 : a ≤ a1) (hb1 : b1 ≤ b) (ha2 : a ≤ a2) (hb2 : b2 ≤ b) : Rn1 N t n l w E X fs vs m d B σ M s st e2 a b (q1 + q2) σ2 M2 := by
  obtain ⟨x1, x2, x3, x4, x5, x6, x7, x8, x9, x10⟩ := h
  obtain ⟨y1, y2, y3, y4, y5, y6, y7, y8, y9, y10⟩ := h'
  refine ⟨fun k => ?_, y2, y3, x4.tr y4, ⟨y5.1.trans x5.1, fun x hx => (y5.2.1 x hx).trans (x5.2.1 x hx), fun x => (by
    rcases y5.2.2 x with z | z
    · rw [z]; exact x5.2.2 x
    · exact Or.inr (z.trans (FM.r5 x4)))⟩, fun i hi => (y6 i hi).trans (x6 i hi), fun i hi hf => (y7 i (by omega) hf).trans (x7 i (by omega) hf), x8.tr y8, fun j a b c => y9 j a b (x9 j a b c), fun j a b c => ?_⟩
  · rw [show k + (q1 + q2) = k + q2 + q1 by omega, x1, y1, show s + q1 + q2 = s + (q1 + q2) by omega]
  · rcases y10 j a b c with z | z
    · exact x10 j a b z
    · exact Or.inr z
theorem Rn1.fl {σ σ1 σ2 : st_S} {M M1 M2 : Nat → Nat → Int32} {s st e a1 b1 q1 q2 f p : Nat} (h : Rn1 N t n l w E X fs vs m d B σ M s st e a1 b1 q1 σ1 M1) (h' : Fl1 N t n d B σ1 M1 (s + q1) e q2 f p σ2 M2) : Fl1 N t n d B σ M s st (q1 + q2) f p σ2 M2 := by
  obtain ⟨x1, x2, x3, x4, x5, x6, x7, x8, x9, x10⟩ := h
  obtain ⟨y1, y2, y3, y4, y5, y6⟩ := h'
  exact ⟨fun k => by rw [show k + (q1 + q2) = k + q2 + q1 by omega, x1, y1], y2, x4.tr y3, y4, x8.tr y5, y6.trans x5.1⟩
theorem Rn1.wide {σ σ1 : st_S} {M M1 : Nat → Nat → Int32} {s st e a b a1 b1 q1 : Nat} (h : Rn1 N t n l w E X fs vs m d B σ M s st e a1 b1 q1 σ1 M1) (ha : a ≤ a1) (hb : b1 ≤ b) : Rn1 N t n l w E X fs vs m d B σ M s st e a b q1 σ1 M1 := by
  obtain ⟨x1, x2, x3, x4, x5, x6, x7, x8, x9, x10⟩ := h
  exact ⟨x1, x2, x3, x4, x5, x6, fun i hi hf => x7 i (by omega) hf, x8, x9, x10⟩
/-- the cost of what was met goes down -/
theorem trm_mo {σ σ' : st_S} (hE : m ≤ E.length) (h : ∀ j, j < E.length → (E.getD j eN).2.1 = 2 → gE σ 44 (X j) = gI σ 42 5 → gE σ' 44 (X j) = gI σ' 42 5) : phi2 E X σ' m ≤ phi2 E X σ m := by
  have key : ∀ m, m ≤ E.length → phi2 E X σ' m ≤ phi2 E X σ m := by
    intro m
    induction m with
    | zero => intro _; exact Nat.le_refl _
    | succ m ih =>
      intro hm
      have := ih (by omega)
      have e : trm E X σ' m ≤ trm E X σ m := by
        unfold trm
        by_cases c : (E.getD m eN).2.1 = 2 ∧ ¬ gE σ' 44 (X m) = gI σ' 42 5
        · rw [if_pos c, if_pos ⟨c.1, fun z => c.2 (h m (by omega) c.1 z)⟩]
          exact Nat.le_refl _
        · rw [if_neg c]; exact Nat.zero_le _
      show phi2 E X σ' m + trm E X σ' m ≤ phi2 E X σ m + trm E X σ m
      omega
  exact key m hE
/-- a node is worked -/
theorem Rn1.wk (ht : t = 4 ∨ t = 20) {σ : st_S} {M : Nat → Nat → Int32} {s i op a b : Nat} {v : Int64 × Int64} (h : MF σ t n M l w E X fs) (h2 : Mtt l w E X fs vs σ M) (hd : DJ E X fs σ m a b) (hi : a ≤ i) (hi2 : i < b) (hn : i < n) (h0 : ¬ M i 0 = 0) (hl : ∀ k, L_70 N t (k + 1) (nI d) (nI i) (nI B) (nI s) σ = (F_76 N t (nI i) (nI op) σ).bind fun p => L_70 N t k (nI d) (nI (i + 1)) (nI B) (nI (s + 1)) p) (hw : Wk N t n σ M i op v) : ∃ σ' M', Rn1 N t n l w E X fs vs m d B σ M s i (i + 1) i (i + 1) 1 σ' M' ∧ Va M' i v ∧ (∀ j, trm E X σ' j = trm E X σ j) := by
  obtain ⟨σ', M', e, q⟩ := hw
  have r5 := FM.r5 q.2.2.2.2.2.1
  have e44 := q.2.2.2.2.2.2 44 (Or.inr (Or.inl rfl))
  refine ⟨σ', M', ⟨fun k => by rw [hl, e, ob_some], h.nx ht q h0, h2.nx q hd hi hi2 r5, q.2.2.2.2.2.1, ⟨q.2.2.2.2.2.2 43 (Or.inl rfl), fun x _ => by rw [e44], fun x => Or.inl (by rw [e44])⟩, fun j _ => by rw [q.2.2.2.2.2.2 45 (Or.inr (Or.inr rfl))], fun j hj _ => q.2.1 j (by omega), q.sta h0, fun j _ _ z => by rw [e44, r5]; exact z, fun j _ _ z => Or.inl (by rw [e44, r5] at z; exact z)⟩, q.2.2.2.2.1, fun j => trm_eq e44 r5 j⟩
/-- a jump -/
theorem Rn1.jm {σ : st_S} {M : Nat → Nat → Int32} {s i e a b : Nat} (h : MF σ t n M l w E X fs) (h2 : Mtt l w E X fs vs σ M) (hl : ∀ k, L_70 N t (k + 1) (nI d) (nI i) (nI B) (nI s) σ = L_70 N t k (nI d) (nI e) (nI B) (nI (s + 1)) σ) : Rn1 N t n l w E X fs vs m d B σ M s i e a b 1 σ M := ⟨fun k => hl k, h, h2, FM.rf σ, ⟨rfl, fun _ _ => rfl, fun _ => Or.inl rfl⟩, fun _ _ => rfl, fun _ _ _ => rfl, Sta.rf M, fun _ _ _ z => z, fun _ _ _ z => Or.inl z⟩
/-- a number's operation -/
theorem Rn1.num (ht : t = 4 ∨ t = 20) (hN : 300 < N) {σ : st_S} {M : Nat → Nat → Int32} {s i op x y pl a b : Nat} {u v : Int64 × Int64} (h : MF σ t n M l w E X fs) (h2 : Mtt l w E X fs vs σ M) (hd : DJ E X fs σ m a b) (hi : a ≤ i) (hi2 : i < b) (hn : i < n) (ho : 4 ≤ op) (ho2 : op ≤ 8) (nd : Nd M i op pl (nI x) (nI y) (-1)) (hx : x < n) (hy : y < n) (h5 : M i 5 = 1) (hu : Va M x u) (hv : Va M y v) (ku : okv 1 u) (kv : okv 1 v) (hs : s < B) (hB : B < 100000) : match rk op u.1 u.2 v.1 v.2 with
    | .inl f => ∃ σ' M', Fl1 N t n d B σ M s i 1 f pl σ' M'
    | .inr z => ∃ σ' M', Rn1 N t n l w E X fs vs m d B σ M s i (i + 1) i (i + 1) 1 σ' M' ∧ Va M' i z ∧ (∀ j, trm E X σ' j = trm E X σ j) := by
  obtain ⟨n0, n1, n2, n3, n4, n7⟩ := nd
  obtain ⟨σ1, l1, l2⟩ := F72' (N := N) h.1 hN hn ho ho2 hx hy n2 n3 hu hv ku kv
  have hl := fun k => L70r (N := N) (d := d) (k := k) h.1 hn ho ho2 n0 hs hB
  have nz : ¬ M i 0 = 0 := by rw [n0]; exact nik (m := 0) (by omega) (by decide) (by omega)
  cases hr : rk op u.1 u.2 v.1 v.2 with
  | inl f =>
    dsimp only
    refine ⟨st_i σ1 42 6 (M i 1), M, fun k => ?_, ?_, l1.fm.tr (FM.i _ _), (l1.cs h.1).i (by omega) _, Sta.rf M, ?_⟩
    · rw [hl, l2, hr]
    · rw [gI_i, if_pos ⟨rfl, rfl⟩]; exact n1
    · show σ1.2.2.2.2.1 43 = _; rw [l1.2.1]
  | inr z =>
    dsimp only
    have kz : okv 1 z := rk_ok ku kv hr
    have cs1 := l1.cs h.1
    have b1 : z.2.toInt32 = bl1 z.2 := by
      unfold bl1
      rw [if_neg (fun q => by have := (okv1.mp kz).2.1; rw [q] at this; exact absurd this (by decide))]
    have nx := Nx.two ht cs1 (i := i) (x := z.1.toInt32) (y := z.2.toInt32) (v := z) rfl b1 (h5.trans (kvv_k kz).symm) (no_t n0 (by omega) (by omega))
    have nx' : Nx t n σ M i z (st_e (st_e σ1 (t + 8) i z.1.toInt32) (t + 9) i z.2.toInt32) (pat (pat M i 6 z.1.toInt32) i 7 z.2.toInt32) := by
      obtain ⟨a1, a2, a3, a4, a5, a6, a7⟩ := nx
      refine ⟨a1, a2, a3, a4, a5, l1.fm.tr a6, fun c hc => (a7 c hc).trans ?_⟩
      show σ1.2.2.2.2.1 c = σ.2.2.2.2.1 c
      rw [l1.2.1]
    have r5 := FM.r5 nx'.2.2.2.2.2.1
    have e44 := nx'.2.2.2.2.2.2 44 (Or.inr (Or.inl rfl))
    refine ⟨_, _, ⟨fun k => by rw [hl, l2, hr], h.nx ht nx' nz, h2.nx nx' hd hi hi2 r5, nx'.2.2.2.2.2.1, ⟨nx'.2.2.2.2.2.2 43 (Or.inl rfl), fun x _ => by rw [e44], fun x => Or.inl (by rw [e44])⟩, fun j _ => by rw [nx'.2.2.2.2.2.2 45 (Or.inr (Or.inr rfl))], fun j hj _ => nx'.2.1 j (by omega), nx'.sta nz, fun j _ _ z => by rw [e44, r5]; exact z, fun j _ _ z => Or.inl (by rw [e44, r5] at z; exact z)⟩, nx'.2.2.2.2.1, fun j => trm_eq e44 r5 j⟩
theorem DJ.sub {σ σ1 : st_S} {a b a1 b1 : Nat} (h : DJ E X fs σ m a b) (ha : a ≤ a1) (hb : b1 ≤ b) (hm : ∀ j, j < E.length → (E.getD j eN).2.1 = 2 → gE σ1 44 (X j) = gI σ1 42 5 → gE σ 44 (X j) = gI σ 42 5 ∨ j < m) : DJ E X fs σ1 m a1 b1 := by
  intro j hj hs hh
  have : gE σ 44 (X j) = gI σ 42 5 ∨ j < m := by
    rcases hh with z | z
    · exact hm j hj hs z
    · exact Or.inr z
  have := h j hj hs this
  omega
end RUN
