/-! the class explores: a state is found -/
/-- where a state is looked for first -/
def hst (a x : Int32) : Int32 := (a + x) * (-1640531535)
def hfd (nx : Vl) : Nat → Nat → Int32 → Int32
  | 0, _, a => a
  | r + 1, v, a => hfd nx r (v + 1) (hst a (nx v))
def hmx (z : Int32) : Int32 := (z ^^^ ((z).toUInt32 >>> ((16 : Int32).toUInt32 &&& Int32.toUInt32 31)).toInt32) &&& 1023
def hsh (V : Nat) (nx : Vl) : Nat := (hmx (hfd nx V 0 0)).toNatClampNeg
theorem hsh_ok (V : Nat) (nx : Vl) : nI (hsh V nx) = hmx (hfd nx V 0 0) ∧ hsh V nx < 1024 := by
  obtain ⟨j, hj, e⟩ := pk_andE (hfd nx V 0 0 ^^^ ((hfd nx V 0 0).toUInt32 >>> ((16 : Int32).toUInt32 &&& Int32.toUInt32 31)).toInt32) (m := 1023) 10 (by decide)
  have e : hmx (hfd nx V 0 0) = nI j := e
  unfold hsh
  rw [e, nI_clamp (by omega)]
  exact ⟨rfl, by omega⟩
theorem hfd_cg {a b : Vl} : ∀ (r v : Nat) (z : Int32), (∀ u, v ≤ u → u < v + r → a u = b u) → hfd a r v z = hfd b r v z := by
  intro r
  induction r with
  | zero => intro v z _; rfl
  | succ r ih =>
    intro v z h
    unfold hfd
    rw [h v (Nat.le_refl _) (by omega)]
    exact ih (v + 1) _ (fun u h1 h2 => h u (by omega) (by omega))
theorem hsh_cg {V : Nat} {a b : Vl} (h : ∀ v, v < V → a v = b v) : hsh V a = hsh V b := by
  unfold hsh
  rw [hfd_cg V 0 0 (fun u _ h2 => h u (by omega))]
theorem and1023 : ∀ a, a < 1024 → (nI (a + 1)) &&& 1023 = nI ((a + 1) % 1024) := by decide +kernel
/-- how many slots are taken -/
def nzs (tab : Nat → Nat) : Nat → Nat
  | 0 => 0
  | m + 1 => nzs tab m + if tab m = 0 then 0 else 1
theorem nzs_full {tab : Nat → Nat} : ∀ {m : Nat}, (∀ p, p < m → tab p ≠ 0) → nzs tab m = m := by
  intro m
  induction m with
  | zero => intro _; rfl
  | succ m ih =>
    intro h
    show nzs tab m + (if tab m = 0 then 0 else 1) = m + 1
    rw [ih (fun p hp => h p (by omega)), if_neg (h m (by omega))]
theorem nzs_up {tab : Nat → Nat} {p v : Nat} (h0 : tab p = 0) (hv : v ≠ 0) : ∀ {m : Nat}, nzs (upv tab p v) m = nzs tab m + if p < m then 1 else 0 := by
  intro m
  induction m with
  | zero => rfl
  | succ m ih =>
    show nzs (upv tab p v) m + (if upv tab p v m = 0 then 0 else 1) = nzs tab m + (if tab m = 0 then 0 else 1) + if p < m + 1 then 1 else 0
    rw [ih]
    by_cases c : m = p
    · subst c
      rw [upv_s, if_neg hv, h0, if_pos rfl, if_neg (Nat.lt_irrefl m), if_pos (Nat.lt_succ_self m)]
    · rw [upv_o _ _ c]
      by_cases c2 : p < m
      · rw [if_pos c2, if_pos (show p < m + 1 by omega)]; omega
      · rw [if_neg c2, if_neg (show ¬ p < m + 1 by omega)]; omega
/-- states are told apart -/
def Dst (V : Nat) (P : Pst) : Prop := ∀ i j, i < j → j < P.1 → ¬ smv V (P.2 i) (P.2 j) = true
/-- the table of the states' slots -/
def Htb (V : Nat) (P : Pst) (tab : Nat → Nat) : Prop := (∀ p, p < 1024 → tab p ≤ P.1) ∧ nzs tab 1024 = P.1 ∧ ∀ k, k < P.1 → ∃ d, d < 1024 ∧ tab ((hsh V (P.2 k) + d) % 1024) = k + 1 ∧ ∀ d', d' < d → tab ((hsh V (P.2 k) + d') % 1024) ≠ 0
theorem smv_sy {V : Nat} {a b : Vl} (h : smv V a b = true) : smv V b a = true := smv_t.mpr fun v hv => (smv_t.mp h v hv).symm
theorem smv_tr {V : Nat} {a b c : Vl} (h : smv V a b = true) (h' : smv V b c = true) : smv V a c = true := smv_t.mpr fun v hv => (smv_t.mp h v hv).trans (smv_t.mp h' v hv)
theorem fsv_at {V : Nat} {sv : Nat → Vl} {nx : Vl} : ∀ {r k j : Nat}, k ≤ j → j < k + r → smv V (sv j) nx = true → (∀ i, k ≤ i → i < j → ¬ smv V (sv i) nx = true) → fsv V sv nx r k = some j := by
  intro r
  induction r with
  | zero => intro k j h1 h2; omega
  | succ r ih =>
    intro k j h1 h2 h3 h4
    unfold fsv
    by_cases c : k = j
    · rw [c, if_pos h3]
    · rw [if_neg (h4 k (Nat.le_refl _) (by omega))]
      exact ih (by omega) (by omega) h3 (fun i z1 z2 => h4 i (by omega) z2)
theorem fsv_no {V : Nat} {sv : Nat → Vl} {nx : Vl} : ∀ {r k : Nat}, (∀ i, k ≤ i → i < k + r → ¬ smv V (sv i) nx = true) → fsv V sv nx r k = none := by
  intro r
  induction r with
  | zero => intro k _; rfl
  | succ r ih =>
    intro k h
    unfold fsv
    rw [if_neg (h k (Nat.le_refl _) (by omega))]
    exact ih (fun i z1 z2 => h i (by omega) (by omega))
theorem fsv_f {V : Nat} {sv : Nat → Vl} {nx : Vl} : ∀ {r k : Nat}, fsv V sv nx r k = none → ∀ i, k ≤ i → i < k + r → ¬ smv V (sv i) nx = true := by
  intro r
  induction r with
  | zero => intro k _ i h1 h2; omega
  | succ r ih =>
    intro k h i h1 h2
    unfold fsv at h
    split at h
    · cases h
    · rename_i c
      by_cases ci : i = k
      · rw [ci]; exact c
      · exact ih h i (by omega) (by omega)
section HT
variable {V : Nat} {P : Pst} {tab : Nat → Nat} {nx : Vl}
theorem Htb.zero (h : Htb V P tab) (hS : P.1 < 1024) : ∃ d, d < 1024 ∧ tab ((hsh V nx + d) % 1024) = 0 := by
  obtain ⟨p, p1, p2⟩ : ∃ p, p < 1024 ∧ tab p = 0 := by
    apply Classical.byContradiction
    intro no
    have := nzs_full (tab := tab) (m := 1024) (fun p hp z => no ⟨p, hp, z⟩)
    have := h.2.1
    omega
  have hb := (hsh_ok V nx).2
  refine ⟨(p + 1024 - hsh V nx) % 1024, Nat.mod_lt _ (by decide), ?_⟩
  rw [show (hsh V nx + (p + 1024 - hsh V nx) % 1024) % 1024 = p by omega]
  exact p2
/-- a taken slot before the first free one holds the state if it is there -/
theorem Htb.no (h : Htb V P tab) {d : Nat} (h0 : tab ((hsh V nx + d) % 1024) = 0) (hd : d < 1024) (hp : ∀ d', d' < d → ¬ smv V (P.2 (tab ((hsh V nx + d') % 1024) - 1)) nx = true) : ∀ k, k < P.1 → ¬ smv V (P.2 k) nx = true := by
  intro k hk z
  obtain ⟨e, e1, e2, e3⟩ := h.2.2 k hk
  have eh : hsh V (P.2 k) = hsh V nx := hsh_cg (smv_t.mp z)
  rw [eh] at e2 e3
  by_cases c : e < d
  · have := hp e c
    rw [e2, Nat.add_sub_cancel] at this
    exact this z
  · by_cases c2 : e = d
    · rw [c2, h0] at e2; omega
    · exact e3 d (by omega) h0
theorem Htb.add (h : Htb V P tab) {d : Nat} (h0 : tab ((hsh V nx + d) % 1024) = 0) (hd : d < 1024) (hp : ∀ d', d' < d → tab ((hsh V nx + d') % 1024) ≠ 0) : Htb V (P.1 + 1, upv P.2 P.1 nx) (upv tab ((hsh V nx + d) % 1024) (P.1 + 1)) := by
  obtain ⟨h1, h2, h3⟩ := h
  have lt : (hsh V nx + d) % 1024 < 1024 := Nat.mod_lt _ (by decide)
  refine ⟨fun p hp' => ?_, ?_, fun k hk => ?_⟩
  · show upv tab _ (P.1 + 1) p ≤ P.1 + 1
    by_cases c : p = (hsh V nx + d) % 1024
    · rw [c, upv_s]; exact Nat.le_refl _
    · rw [upv_o _ _ c]
      have := h1 p hp'
      omega
  · rw [nzs_up h0 (Nat.succ_ne_zero _), if_pos lt, h2]
  · have hk : k < P.1 + 1 := hk
    show ∃ d1, d1 < 1024 ∧ upv tab ((hsh V nx + d) % 1024) (P.1 + 1) ((hsh V (upv P.2 P.1 nx k) + d1) % 1024) = k + 1 ∧ ∀ d', d' < d1 → upv tab ((hsh V nx + d) % 1024) (P.1 + 1) ((hsh V (upv P.2 P.1 nx k) + d') % 1024) ≠ 0
    have nz : ∀ p, tab p ≠ 0 → upv tab ((hsh V nx + d) % 1024) (P.1 + 1) p ≠ 0 := fun p z => by
      by_cases c : p = (hsh V nx + d) % 1024
      · rw [c, upv_s]; exact Nat.succ_ne_zero _
      · rw [upv_o _ _ c]; exact z
    by_cases ck : k = P.1
    · subst ck
      rw [upv_s]
      exact ⟨d, hd, upv_s _ _ _, fun d' z => nz _ (hp d' z)⟩
    · rw [upv_o _ _ ck]
      obtain ⟨e, e1, e2, e3⟩ := h3 k (by omega)
      refine ⟨e, e1, ?_, fun d' z => nz _ (e3 d' z)⟩
      rw [upv_o _ _ (fun z => by rw [z, h0] at e2; omega)]
      exact e2
theorem Dst.add (h : Dst V P) (hn : fsv V P.2 nx P.1 0 = none) : Dst V (P.1 + 1, upv P.2 P.1 nx) := by
  intro i j hij hj
  have hj : j < P.1 + 1 := hj
  show ¬ smv V (upv P.2 P.1 nx i) (upv P.2 P.1 nx j) = true
  rw [upv_o _ _ (show i ≠ P.1 by omega)]
  by_cases c : j = P.1
  · rw [c, upv_s]
    exact fsv_f hn i (Nat.zero_le _) (by omega)
  · rw [upv_o _ _ c]
    exact h i j hij (by omega)
end HT
