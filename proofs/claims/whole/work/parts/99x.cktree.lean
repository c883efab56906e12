/-! the class's checker: a rule -/
/-- below, as the class keeps it -/
def bl1 (b : Int64) : Int32 := if b = 0 then 1 else b.toInt32
def kdn (e : En) : Nat := if e.2.2.1 then 2 else 1
/-- what the names' index says -/
def EX (σ : st_S) (t : Nat) (M : Nat → Nat → Int32) (E : List En) (X : Nat → Nat) (b : Nat) : Prop := ∀ j, j < E.length →
  ((E.getD j eN).2.1 = 1 ∧ X j < b ∧ M (X j) 5 = nI (kdn (E.getD j eN)) ∧ M (X j) 6 = (E.getD j eN).2.2.2.2.1.1.toInt32 ∧ M (X j) 7 = bl1 (E.getD j eN).2.2.2.2.1.2) ∨
  ((E.getD j eN).2.1 = 2 ∧ X j < 60 ∧ ∃ fe ro, gE σ (t + 14) (X j) = nI fe ∧ fe < b ∧ M fe 2 = nI ro ∧ ro < b ∧ M ro 5 = nI (kdn (E.getD j eN))) ∨
  ((E.getD j eN).2.1 = 3 ∧ X j < 12 ∧ gE σ (t + 13) (X j) = nI (kdn (E.getD j eN)))
/-- an operand, looked up -/
def LfR (l : List Int32) (w : List (Nat × Nat × Nat)) (E : List En) (X : Nat → Nat) (M : Nat → Nat → Int32) (k i : Nat) : Prop :=
  (kK w k = 2 ∧ M i 0 = 0 ∧ M i 6 = nv l (l.length - kP w k) (kP w k) 0 ∧ M i 7 = 1 ∧ M i 5 = 1) ∨
  (kK w k = 12 ∧ M i 0 = 0 ∧ M i 6 = 1 ∧ M i 7 = 1 ∧ M i 5 = 2) ∨
  (kK w k = 13 ∧ M i 0 = 0 ∧ M i 6 = 0 ∧ M i 7 = 1 ∧ M i 5 = 2) ∨
  (kK w k = 1 ∧ ∃ j, fnd l w E k = some j ∧ j < E.length ∧
    (((E.getD j eN).2.1 = 1 ∧ M i 0 = 0 ∧ M i 6 = (E.getD j eN).2.2.2.2.1.1.toInt32 ∧ M i 7 = bl1 (E.getD j eN).2.2.2.2.1.2 ∧ M i 5 = nI (kdn (E.getD j eN))) ∨
     ((E.getD j eN).2.1 = 2 ∧ M i 0 = 3 ∧ M i 2 = nI (X j)) ∨
     ((E.getD j eN).2.1 = 3 ∧ M i 0 = 2 ∧ M i 2 = nI (X j) ∧ M i 7 = 1 ∧ M i 5 = nI (kdn (E.getD j eN)))))
theorem LfR.fr {l : List Int32} {w : List (Nat × Nat × Nat)} {E : List En} {X : Nat → Nat} {M M' : Nat → Nat → Int32} {k i : Nat} (h : LfR l w E X M k i) (e : M' i = M i) : LfR l w E X M' k i := by
  unfold LfR
  rw [e]
  exact h
/-- operations have the kind that they make -/
def KG (M : Nat → Nat → Int32) (a b : Nat) : Prop := ∀ i op, a ≤ i → i < b → 4 ≤ op → op ≤ 18 → M i 0 = nI op → M i 5 = if op < 10 then 1 else 2
theorem KG.fr {M M' : Nat → Nat → Int32} {a b : Nat} (h : KG M a b) (e : ∀ i, a ≤ i → i < b → M' i = M i) : KG M' a b := fun i op h1 h2 h3 h4 h5 => by
  rw [e i h1 h2] at h5 ⊢
  exact h i op h1 h2 h3 h4 h5
theorem KG.ap {M : Nat → Nat → Int32} {a b c : Nat} (h : KG M a b) (h' : KG M b c) : KG M a c := fun i op h1 h2 h3 h4 h5 => by
  by_cases z : i < b
  · exact h i op h1 z h3 h4 h5
  · exact h' i op (by omega) h2 h3 h4 h5
theorem KG.sb {M : Nat → Nat → Int32} {a b a' b' : Nat} (h : KG M a b) (ha : a ≤ a') (hb : b' ≤ b) : KG M a' b' := fun i op h1 h2 h3 h4 h5 => h i op (by omega) (by omega) h3 h4 h5
theorem KG.one {M : Nat → Nat → Int32} {i op : Nat} (e0 : M i 0 = nI op) (ho : op < 40) (h : op < 4 ∨ 18 < op ∨ M i 5 = if op < 10 then 1 else 2) : KG M i (i + 1) := fun j o h1 h2 h3 h4 h5 => by
  have : j = i := by omega
  subst this
  rw [e0] at h5
  have : op = o := (nI_eq (by omega) (by omega)).mp h5
  subst this
  rcases h with z | z | z
  · omega
  · omega
  · exact z
abbrev Cr (l : List Int32) (w : List (Nat × Nat × Nat)) (E : List En) (X : Nat → Nat) (M : Nat → Nat → Int32) (T : Tr) (a : Nat) : Prop := Code (LfR l w E X M) M w T a ∧ KG M a (a + tln T)
theorem Cr.fr {l : List Int32} {w : List (Nat × Nat × Nat)} {E : List En} {X : Nat → Nat} {M M' : Nat → Nat → Int32} {T : Tr} {a : Nat} (h : Cr l w E X M T a) (e : ∀ i, a ≤ i → i < a + tln T → M' i = M i) : Cr l w E X M' T a := ⟨Code.fr T a h.1 e fun k i q1 q2 z => z.fr (e i q1 q2), h.2.fr e⟩
/-- the kind stands at the root -/
def KD (M : Nat → Nat → Int32) (T : Tr) (a kd : Nat) : Prop := match T with
  | .leaf _ => M a 5 = nI kd
  | .branch n l r => if n % 64 = 37 then ∃ kx ky, M (a + tln l - 1) 5 = nI kx ∧ M (a + tln l + tln r) 5 = nI ky ∧ (kx = 1 ∨ kx = 2) ∧ (ky = 1 ∨ ky = 2) ∧ kd = (if kx = ky then kx else 0) else M (a + lnc (n % 64) (tln l) (tln r) - 1) 5 = nI kd
theorem KD.root {M : Nat → Nat → Int32} {T : Tr} {a kd : Nat} (h : KD M T a kd) (hl : lev T ≤ 7) : M (a + tln T - 1) 5 = nI kd := by
  cases T with
  | leaf k => exact h
  | branch n l r =>
    have hl : lvo (n % 64) ≤ 7 := hl
    have c : ¬ n % 64 = 37 := fun z => by rw [z] at hl; exact absurd hl (by decide)
    have h : (if n % 64 = 37 then _ else M (a + lnc (n % 64) (tln l) (tln r) - 1) 5 = nI kd) := h
    rw [if_neg c] at h
    exact h
theorem KD.mk {M : Nat → Nat → Int32} {T : Tr} {a kd : Nat} (h : M (a + tln T - 1) 5 = nI kd) (hl : lev T ≤ 7) : KD M T a kd := by
  cases T with
  | leaf k => exact h
  | branch n l r =>
    have hl : lvo (n % 64) ≤ 7 := hl
    have c : ¬ n % 64 = 37 := fun z => by rw [z] at hl; exact absurd hl (by decide)
    show (if n % 64 = 37 then _ else M (a + lnc (n % 64) (tln l) (tln r) - 1) 5 = nI kd)
    rw [if_neg c]
    exact h
/-- steps of the loop -/
def Sgo (N t : Nat) (σ : st_S) (i : Nat) (σ' : st_S) (m : Nat) : Prop := ∀ k, L_53 N t (k + m) (nI i) σ = L_53 N t k (nI (i + m)) σ'
def Sft (N t : Nat) (σ : st_S) (i m f : Nat) (σ' : st_S) : Prop := ∀ k, L_53 N t (k + m) (nI i) σ = some (nI f, σ')
theorem Sgo.rf {N t i : Nat} (σ : st_S) : Sgo N t σ i σ 0 := fun _ => rfl
theorem Sgo.tr {N t i m1 m2 m : Nat} {σ σ1 σ2 : st_S} (h1 : Sgo N t σ i σ1 m1) (h2 : Sgo N t σ1 (i + m1) σ2 m2) (hm : m = m1 + m2) : Sgo N t σ i σ2 m := fun k => by
  subst hm
  rw [show k + (m1 + m2) = k + m2 + m1 by omega, h1, h2, show i + m1 + m2 = i + (m1 + m2) by omega]
theorem Sgo.fl {N t i m1 m2 m f : Nat} {σ σ1 σ2 : st_S} (h1 : Sgo N t σ i σ1 m1) (h2 : Sft N t σ1 (i + m1) m2 f σ2) (hm : m1 + m2 ≤ m) : Sft N t σ i m f σ2 := fun k => by
  rw [show k + m = k + (m - m1 - m2) + m2 + m1 by omega, h1, h2]
theorem Sft.mo {N t i m m' f : Nat} {σ σ2 : st_S} (h2 : Sft N t σ i m f σ2) (hm : m ≤ m') : Sft N t σ i m' f σ2 := fun k => by
  rw [show k + m' = k + (m' - m) + m by omega, h2]
/-- what the checker's rule rests on: the names, the item's head; nodes below b are done -/
def CX (σ : st_S) (t n : Nat) (M : Nat → Nat → Int32) (l : List Int32) (w : List (Nat × Nat × Nat)) (E : List En) (X : Nat → Nat) (h hop b : Nat) : Prop := CS σ t n M ∧ Wd σ l ∧ NA σ w E X ∧ EX σ t M E X b ∧ gN σ (t + 13) = 12 ∧ gN σ (t + 14) = 60 ∧ gI σ 46 5 = nI h ∧ h < b ∧ M h 0 = nI hop ∧ gI σ 46 4 = -1
section CXS
variable {N : Nat} {σ : st_S} {t n : Nat} {M : Nat → Nat → Int32} {l : List Int32} {w : List (Nat × Nat × Nat)} {E : List En} {X : Nat → Nat} {h hop b : Nat}
theorem CX.e (ht : t = 4 ∨ t = 20) (q : CX σ t n M l w E X h hop b) {c i : Nat} (hc : c < 8) (hi : b ≤ i) (v : Int32) : CX (st_e σ (t + 2 + c) i v) t n (pat M i c v) l w E X h hop b := by
  obtain ⟨q1, q2, q3, q4, q5, q6, q7, q8, q9, q10⟩ := q
  have ne : ∀ a j, a ≠ t + 2 + c → gE (st_e σ (t + 2 + c) i v) a j = gE σ a j := fun a j z => st_u_a _ _ _ _ z
  have em : ∀ j, j < b → pat M i c v j = M j := fun j hj => pat_o _ _ (by omega)
  refine ⟨q1.e hc v, ⟨q2.1, q2.2.1, q2.2.2.1, q2.2.2.2.1, fun j hj => ?_⟩, ⟨q3.1, q3.2.1, q3.2.2.1, q3.2.2.2.1, q3.2.2.2.2.1, q3.2.2.2.2.2.1, fun j hj => ?_⟩, fun j hj => ?_, q5, q6, q7, q8, ?_, q10⟩
  · rw [ne 3 j (by omega)]; exact q2.2.2.2.2 j hj
  · rw [ne 48 j (by omega), ne 49 j (by omega), ne 50 j (by omega), ne 51 j (by omega)]
    exact q3.2.2.2.2.2.2 j hj
  · rcases q4 j hj with ⟨z1, z2, z3⟩ | ⟨z1, z2, fe, ro, z3, z4, z5, z6, z7⟩ | ⟨z1, z2, z3⟩
    · refine Or.inl ⟨z1, z2, ?_⟩
      rw [em _ z2]; exact z3
    · refine Or.inr (Or.inl ⟨z1, z2, fe, ro, ?_, z4, ?_, z6, ?_⟩)
      · rw [ne (t + 14) _ (by omega)]; exact z3
      · rw [em _ z4]; exact z5
      · rw [em _ z6]; exact z7
    · refine Or.inr (Or.inr ⟨z1, z2, ?_⟩)
      rw [ne (t + 13) _ (by omega)]; exact z3
  · rw [em h q8]; exact q9
theorem CX.i4 (ht : t = 4 ∨ t = 20) (q : CX σ t n M l w E X h hop b) (v : Int32) : CS (st_i σ 46 4 v) t n M ∧ Wd (st_i σ 46 4 v) l := by
  obtain ⟨q1, q2, -⟩ := q
  exact ⟨q1.i (by omega) v, q2⟩
/-- what a rule's check comes to -/
def CkO (N t n : Nat) (l : List Int32) (w : List (Nat × Nat × Nat)) (E : List En) (X : Nat → Nat) (h hop b : Nat) (σ : st_S) (M : Nat → Nat → Int32) (T : Tr) (a : Nat) (o : Rs Nat) : Prop := match o with
  | .inr kd => ∃ σ' M', Sgo N t σ a σ' (tln T) ∧ CX σ' t n M' l w E X h hop b ∧ FN t σ σ' ∧ (∀ i, (i < a ∨ a + tln T ≤ i) → M' i = M i) ∧ Cr l w E X M' T a ∧ KD M' T a kd ∧ kd < 3
  | .inl e => ∃ σ' M', Sft N t σ a (tln T) e.1 σ' ∧ gI σ' 46 4 = nI e.2 ∧ FN t σ σ' ∧ CS σ' t n M' ∧ Wd σ' l
/-- one node, done -/
theorem nd_ok (ht : t = 4 ∨ t = 20) (q : CX σ t n M l w E X h hop b) {i op pl x y z : Nat} (hi : i < n) (hb : b ≤ i) (ho : 4 ≤ op) (ho2 : op ≤ 22) (nd : M i 0 = nI op ∧ M i 1 = nI pl ∧ M i 2 = nI x) (hx : x < n) (hy : op ≠ 9 → op ≠ 16 → op ≠ 22 → y < n ∧ M i 3 = nI y) (hz : op = 19 → z < n ∧ M i 4 = nI z) : (((ckn op (M x 5) (M y 5) (M z 5)).2 = true) → ∃ σ', Sgo N t σ i σ' 1 ∧ CX σ' t n (pat M i 5 (ckn op (M x 5) (M y 5) (M z 5)).1) l w E X h hop b ∧ FN t σ σ') ∧ (((ckn op (M x 5) (M y 5) (M z 5)).2 = false) → ∃ σ' M', Sft N t σ i 1 3 σ' ∧ gI σ' 46 4 = nI pl ∧ FN t σ σ' ∧ CS σ' t n M' ∧ Wd σ' l) := by
  obtain ⟨n0, n1, n2⟩ := nd
  have f := F57' (N := N) q.1 hi ho ho2 n0 hx n2 hy hz
  have l53 : ∀ k, L_53 N t (k + 1) (nI i) σ = _ := fun k => L53v (N := N) (k := k) q.1 hi (by omega) n0
  have e5 := q.e ht (c := 5) (by decide) hb (ckn op (M x 5) (M y 5) (M z 5)).1
  constructor
  · intro hf
    refine ⟨st_e σ (t + 7) i (ckn op (M x 5) (M y 5) (M z 5)).1, fun k => ?_, e5, FN.c σ (c := 5) (by decide) i _⟩
    rw [l53, f, hf]
    rfl
  · intro hf
    obtain ⟨c1, c2⟩ := e5.i4 ht (nI pl)
    refine ⟨st_i (st_e σ (t + 7) i (ckn op (M x 5) (M y 5) (M z 5)).1) 46 4 (nI pl), _, fun k => ?_, ?_, (FN.c σ (c := 5) (by decide) i _).tr (FN.i _ _ (by simp)), c1, c2⟩
    · rw [l53, f, hf, n1]
      rfl
    · rw [gI_i, if_pos ⟨rfl, rfl⟩]
/-- a jump: nothing to look at -/
theorem nj_ok (q : CX σ t n M l w E X h hop b) {i op : Nat} (hi : i < n) (ho : op = 0 ∨ 23 ≤ op) (ho2 : op < 26) (e0 : M i 0 = nI op) : Sgo N t σ i σ 1 := fun k => by
  rw [L53v (N := N) (k := k) q.1 hi ho2 e0, F57o q.1 hi ho (by omega) e0]
  rfl
end CXS
