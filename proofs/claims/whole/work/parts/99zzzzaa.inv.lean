/-! exploring: what holds all the time -/
/-- each var in its range -/
def Vr (E : List En) (vs : Vl) : Prop := ∀ j, j < E.length → (E.getD j eN).2.1 = 3 → vlo E j ≤ vs (vno E j) ∧ vs (vno E j) ≤ vhi E j
/-- values in the range are values -/
def Vok (E : List En) : Prop := ∀ j, j < E.length → (E.getD j eN).2.1 = 3 → ∀ x : Int32, vlo E j ≤ x → x ≤ vhi E j → okv (kdn (E.getD j eN)) (x.toInt64, if (E.getD j eN).2.2.1 then 0 else 1)
/-- vars have numbers of their own -/
def Vij (E : List En) : Prop := ∀ i j, i < E.length → j < E.length → (E.getD i eN).2.1 = 3 → (E.getD j eN).2.1 = 3 → vno E i = vno E j → i = j
/-- sets name vars -/
def Stv (l : List Int32) (w : List (Nat × Nat × Nat)) (E : List En) (S : List Tr) : Prop := ∀ T ∈ S, ∃ j, fnd l w E (bw T - 3) = some j ∧ (E.getD j eN).2.1 = 3
theorem r32 {lo hi : Int32} {x : Int64} (h : x.toInt.natAbs < 1000000000) (h1 : ¬ x < lo.toInt64) (h2 : ¬ hi.toInt64 < x) : lo ≤ x.toInt32 ∧ x.toInt32 ≤ hi := by
  have e := toL h
  rw [← e] at h1 h2
  have h1 := Int64.not_lt.mp h1
  have h2 := Int64.not_lt.mp h2
  rw [Int64.le_iff_toInt_le, Int32.toInt_toInt64, Int32.toInt_toInt64] at h1 h2
  exact ⟨Int32.le_iff_toInt_le.mpr h1, Int32.le_iff_toInt_le.mpr h2⟩
theorem okv_9 {k : Nat} {v : Int64 × Int64} (h : okv k v) : v.1.toInt.natAbs < 1000000000 := by
  rcases h with ⟨-, h1, h2, -⟩ | ⟨-, h1 | h1, -⟩
  · rw [Int64.lt_iff_toInt_lt] at h1 h2
    rw [LG] at h2
    rw [LGn] at h1
    omega
  · rw [h1]; decide
  · rw [h1]; decide
section INV
variable {l : List Int32} {w : List (Nat × Nat × Nat)} {E : List En} {vs nx nx' : Vl} {V b0 tg a : Nat} {B B' : Bn} {v : Int64 × Int64} {T : Tr} {S : List Tr}
theorem xs1_r (hi : Vij E) {j : Nat} (hj : fnd l w E (bw T - 3) = some j) (h3 : (E.getD j eN).2.1 = 3) (hv : v.1.toInt.natAbs < 1000000000) (hn : Vr E nx) (h : xs1 l w E T nx v = .inr nx') : Vr E nx' := by
  have ej : vjx l w E T = j := by unfold vjx; rw [hj]; rfl
  unfold xs1 at h
  rw [ej] at h
  split at h
  · split at h
    · cases h
    · rename_i c
      injection h with h
      subst h
      obtain ⟨r1, r2⟩ := r32 hv (fun z => c (Or.inl z)) (fun z => c (Or.inr z))
      intro i hi' s
      by_cases ci : vno E i = vno E j
      · have := hi i j hi' (fnd_lt hj) s h3 ci
        subst this
        rw [upv_s]
        exact ⟨r1, r2⟩
      · rw [upv_o _ _ ci]
        exact hn i hi' s
  · cases h
theorem xst_r (hi : Vij E) (hv : ∀ T ∈ S, ∀ v, exv l w E vs T = .inr v → v.1.toInt.natAbs < 1000000000) (hS : Stv l w E S) : ∀ {nx : Vl}, Vr E nx → xst l w E vs S nx = .inr nx' → Vr E nx' := by
  induction S with
  | nil =>
    intro nx hn h
    injection h with h
    subst h
    exact hn
  | cons T S ih =>
    intro nx hn h
    unfold xst at h
    obtain ⟨n1, h1, h2⟩ := sbd_i h
    obtain ⟨u, h3, h4⟩ := sbd_i h1
    obtain ⟨j, j1, j2⟩ := hS T List.mem_cons_self
    exact ih (fun T' hT => hv T' (List.mem_cons_of_mem _ hT)) (fun T' hT => hS T' (List.mem_cons_of_mem _ hT)) (xs1_r hi j1 j2 (hv T List.mem_cons_self u h3) hn h4) h2
theorem xgo_ok {P : Pst} {q : Nat × Pst} (hP : P.1 ≤ 512) (h : xgo V P nx = some q) : q.1 < q.2.1 ∧ P.1 ≤ q.2.1 ∧ q.2.1 ≤ 512 ∧ (∀ k, k < P.1 → q.2.2 k = P.2 k) ∧ ∀ k, P.1 ≤ k → k < q.2.1 → q.2.2 k = nx := by
  have F : ∀ {r k i : Nat}, fsv V P.2 nx r k = some i → i < k + r := by
    intro r
    induction r with
    | zero => intro k i h; cases h
    | succ r ih =>
      intro k i h
      unfold fsv at h
      split at h
      · injection h with h; omega
      · have := ih h; omega
  unfold xgo at h
  cases hf : fsv V P.2 nx P.1 0 with
  | some i =>
    rw [hf] at h
    injection h with h
    subst h
    have := F hf
    exact ⟨by show i < P.1; omega, Nat.le_refl _, hP, fun _ _ => rfl, fun k h1 h2 => by have h2 : k < P.1 := h2; omega⟩
  | none =>
    rw [hf] at h
    dsimp only at h
    split at h
    · cases h
    · rename_i c
      injection h with h
      subst h
      exact ⟨Nat.lt_succ_self _, Nat.le_succ _, by show P.1 + 1 ≤ 512; omega, fun k hk => upv_o _ _ (by omega), fun k h1 h2 => by have h2 : k < P.1 + 1 := h2; rw [show k = P.1 by omega]; exact upv_s _ _ _⟩
theorem fbr_in {br : Nat → Nat × Int64 × Int64} {g : Nat} : ∀ {r i j : Nat}, fbr br g r i = some j → i ≤ j ∧ j < i + r := by
  intro r
  induction r with
  | zero => intro i j h; cases h
  | succ r ih =>
    intro i j h
    unfold fbr at h
    split at h
    · injection h with h; omega
    · have := ih h; omega
/-- chances of the branches so far -/
def Fqr (a b0 : Nat) (B : Bn) (t : Nat) : Prop := ∀ i, b0 ≤ i → i < B.1 → Fq a (B.2 i).2 ∧ wt a (B.2 i).2 ≤ t
theorem xbw_ok {t : Nat} (ha : 0 < a) (ha2 : a < 1000000000) (hv : Fq a v) (ht : t + wt a v ≤ a) (hB : B.1 ≤ 4096) (hb : b0 ≤ B.1) (hF : Fqr a b0 B t) (h : xbw b0 B tg v = some B') : B.1 ≤ B'.1 ∧ B'.1 ≤ 4096 ∧ b0 < B'.1 ∧ (∀ i, i < b0 → B'.2 i = B.2 i) ∧ Fqr a b0 B' (t + wt a v) := by
  unfold xbw at h
  cases hf : fbr B.2 tg (B.1 - b0) b0 with
  | some i =>
    rw [hf] at h
    injection h with h
    subst h
    obtain ⟨i1, i2⟩ := fbr_in hf
    obtain ⟨f1, f2⟩ := hF i i1 (by omega)
    obtain ⟨q1, q2, -⟩ := adq_ok ha ha2 f1 hv (by omega)
    refine ⟨Nat.le_refl _, hB, by show b0 < B.1; omega, fun j hj => upv_o _ _ (by omega), fun j h1 h2 => ?_⟩
    show Fq a (upv B.2 i (tg, adq (B.2 i).2 v) j).2 ∧ wt a (upv B.2 i (tg, adq (B.2 i).2 v) j).2 ≤ _
    by_cases c : j = i
    · subst c
      rw [upv_s]
      exact ⟨q1, by show wt a (adq (B.2 j).2 v) ≤ _; omega⟩
    · rw [upv_o _ _ c]
      obtain ⟨g1, g2⟩ := hF j h1 h2
      exact ⟨g1, by omega⟩
  | none =>
    rw [hf] at h
    dsimp only at h
    split at h
    · cases h
    · rename_i c
      injection h with h
      subst h
      refine ⟨Nat.le_succ _, by show B.1 + 1 ≤ 4096; omega, by show b0 < B.1 + 1; omega, fun j hj => upv_o _ _ (by omega), fun j h1 h2 => ?_⟩
      have h2 : j < B.1 + 1 := h2
      show Fq a (upv B.2 B.1 (tg, v) j).2 ∧ wt a (upv B.2 B.1 (tg, v) j).2 ≤ _
      by_cases c : j = B.1
      · subst c
        rw [upv_s]
        exact ⟨hv, by show wt a v ≤ _; omega⟩
      · rw [upv_o _ _ c]
        obtain ⟨g1, g2⟩ := hF j h1 (by omega)
        exact ⟨g1, by omega⟩
theorem Fqr.s {t : Nat} (ha : 0 < a) (ha2 : a < 1000000000) (hv : Fq a v) (ht : t + wt a v ≤ a) (hF : Fqr a b0 B t) : 0 < a ∧ a < 1000000000 ∧ Fq a v ∧ ∀ i, b0 ≤ i → i < B.1 → Fq a (B.2 i).2 ∧ wt a (B.2 i).2 + wt a v ≤ a := ⟨ha, ha2, hv, fun i h1 h2 => ⟨(hF i h1 h2).1, by have := (hF i h1 h2).2; omega⟩⟩
end INV
