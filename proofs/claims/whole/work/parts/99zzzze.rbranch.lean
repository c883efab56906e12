/-! the reference explores: a branch's values, where it goes -/
section IX
variable {w : List (Nat × Nat × Nat)} {tb : Nat → Nat → Int32} {P : Nat → Tr → Nat → Prop} {VN : Tr → Int32 → Nat → Prop} {g : Nat}
theorem rev_at {α : Type} {a : α} {L : List α} {i : Nat} {x : α} (h : (a :: L).reverse[i]? = some x) : (i = L.length ∧ x = a) ∨ L.reverse[i]? = some x := by
  rw [List.reverse_cons] at h
  by_cases c : i < L.reverse.length
  · rw [List.getElem?_append_left c] at h
    exact Or.inr h
  · rw [List.getElem?_append_right (by omega)] at h
    have l1 : L.reverse.length = L.length := List.length_reverse
    by_cases c2 : i - L.reverse.length = 0
    · rw [c2] at h
      injection h with h
      exact Or.inl ⟨by omega, h.symm⟩
    · rw [List.getElem?_eq_none (by show 1 ≤ i - L.reverse.length; omega)] at h
      cases h
theorem rev_lt {α : Type} {L : List α} {i : Nat} {x : α} (h : L.reverse[i]? = some x) : i < L.length := by
  have := (List.getElem?_eq_some_iff.mp h).1
  rw [List.length_reverse] at this
  exact this
theorem SetsR.at' {s0 : Nat} : ∀ {S : List Tr}, SetsR w tb P VN g s0 S → ∀ {q : Nat} {T : Tr}, S.reverse[q]? = some T → SetR w tb P VN g (s0 + q) T := by
  intro S
  induction S with
  | nil => intro _ q T h; cases h
  | cons a S ih =>
    intro h q T hq
    rcases rev_at hq with ⟨z1, z2⟩ | z
    · rw [z1, z2]; exact h.2
    · exact ih h.1 z
theorem nsb_d {B : List (Tr × List Tr)} {b : Tr × List Tr} : ∀ {q : Nat}, B.reverse[q]? = some b → nsb (B.drop (B.length - q)) + b.2.length ≤ nsb B := by
  induction B with
  | nil => intro q h; cases h
  | cons a B ih =>
    intro q hq
    rcases rev_at hq with ⟨z1, z2⟩ | z
    · rw [z1, z2, List.length_cons, show B.length + 1 - B.length = 1 by omega, List.drop_succ_cons, List.drop_zero, nsb_c]
      omega
    · have lt := rev_lt z
      rw [List.length_cons, show B.length + 1 - q = (B.length - q) + 1 by omega, List.drop_succ_cons, nsb_c]
      have := ih z
      omega
theorem BrsR.at' {c s0 : Nat} : ∀ {B : List (Tr × List Tr)}, BrsR w tb P VN g c s0 B → ∀ {q : Nat} {b : Tr × List Tr}, B.reverse[q]? = some b → BrR w tb P VN g (8 * c + q) (s0 + nsb (B.drop (B.length - q))) b ∧ tb (g + 29) (8 * c + q) = nI b.2.length := by
  intro B
  induction B with
  | nil => intro _ q b h; cases h
  | cons a B ih =>
    intro h q b hq
    rcases rev_at hq with ⟨z1, z2⟩ | z
    · rw [z1, z2, List.length_cons, show B.length + 1 - B.length = 1 by omega, List.drop_succ_cons, List.drop_zero]
      exact h.2
    · have lt := rev_lt z
      rw [List.length_cons, show B.length + 1 - q = (B.length - q) + 1 by omega, List.drop_succ_cons]
      exact ih h.1 z
theorem nsc_d {C : List It} {c : It} : ∀ {i : Nat}, C.reverse[i]? = some c → nsc (C.drop (C.length - i)) + nsb (bsr c.2.2) ≤ nsc C := by
  induction C with
  | nil => intro q h; cases h
  | cons a C ih =>
    intro q hq
    rcases rev_at hq with ⟨z1, z2⟩ | z
    · rw [z1, z2, List.length_cons, show C.length + 1 - C.length = 1 by omega, List.drop_succ_cons, List.drop_zero, nsc_c]
      omega
    · have lt := rev_lt z
      rw [List.length_cons, show C.length + 1 - q = (C.length - q) + 1 by omega, List.drop_succ_cons, nsc_c]
      have := ih z
      omega
theorem CosR.at' : ∀ {C : List It}, CosR w tb P VN g C → ∀ {i : Nat} {c : It}, C.reverse[i]? = some c → CoR w tb P VN g i (nsc (C.drop (C.length - i))) c := by
  intro C
  induction C with
  | nil => intro _ q b h; cases h
  | cons a C ih =>
    intro h q b hq
    rcases rev_at hq with ⟨z1, z2⟩ | z
    · rw [z1, z2, List.length_cons, show C.length + 1 - C.length = 1 by omega, List.drop_succ_cons, List.drop_zero]
      exact h.2
    · have lt := rev_lt z
      rw [List.length_cons, show C.length + 1 - q = (C.length - q) + 1 by omega, List.drop_succ_cons]
      exact ih h.1 z
end IX
section RS8
variable {N g n k : Nat} {σ σ0 σ' : st_S} {D : Nat → Nat → Int32} {w : List (Nat × Nat × Nat)} {l : List Int32} {X : Tx} {fa : Nat → Nat} {vs nx : Vl} {T : Tr} {a0 sb : Nat} {b : Tr × List Tr}
/-- a branch's rows, whatever else changes -/
def BX (g : Nat) (l : List Int32) (w : List (Nat × Nat × Nat)) (X : Tx) (n : Nat) (D : Nat → Nat → Int32) (fa : Nat → Nat) (a0 sb : Nat) (b : Tr × List Tr) : Prop := a0 < 480 ∧ sb + b.2.length ≤ nsc X.2.2 ∧ ∀ s, RT g l w X n D fa s → BrR w (gE s) (RuR l w X.1 fa D n) (VNm l w X.1) g a0 sb b ∧ gE s (g + 29) a0 = nI b.2.length
/-- the sets of a branch -/
theorem L216s (G : XG N g l w X n σ0) (hv : Vv X.1 vs) (hb : BX g l w X n D fa a0 sb b) {l2 l3 : Int32} : ∀ (S : List Tr) (q : Nat) (σ : st_S) (nx : Vl), b.2.reverse.drop q = S → q + S.length = b.2.length → RXs g l w X n D fa vs σ0 σ → (∀ v, v < cnt X.1 3 → gE σ 184 v = nx v) → match xst l w X.1 vs S nx with
    | .inl e => ∃ σ', (∀ f, L_216 N g (f + S.length + 1) 59 l2 l3 (nI a0) (nI sb) (nI (sb + q)) 0 0 σ = some σ') ∧ XFl g l w X n D fa σ0 e σ'
    | .inr nx' => ∃ σ', (∀ f, L_216 N g (f + S.length) 59 l2 l3 (nI a0) (nI sb) (nI (sb + q)) 0 0 σ = L_216 N g f 59 l2 l3 (nI a0) (nI sb) (nI (sb + b.2.length)) 0 0 σ') ∧ RXs g l w X n D fa vs σ0 σ' ∧ (∀ v, v < cnt X.1 3 → gE σ' 184 v = nx' v) ∧ FS σ σ' := by
  intro S
  induction S with
  | nil =>
    intro q σ nx hd hq h hx
    have hq : q = b.2.length := hq
    exact ⟨σ, fun f => by rw [hq]; rfl, h, hx, Fr.rf σ⟩
  | cons T S ih =>
    intro q σ nx hd hq h hx
    rw [List.length_cons] at hq
    obtain ⟨b1, b2, b3⟩ := id hb
    have hT : b.2.reverse[q]? = some T := by
      have : (b.2.reverse.drop q)[0]? = some T := by rw [hd]; rfl
      rw [List.getElem?_drop] at this
      exact this
    have hd' : b.2.reverse.drop (q + 1) = S := by rw [← List.drop_drop, hd]; rfl
    obtain ⟨⟨r1, r2, r3, r4⟩, r5⟩ := b3 σ h.1.1
    obtain ⟨a, kd, ⟨j, j1, j2, j3, j4⟩, s2, s3, s4⟩ := r4.at' hT
    obtain ⟨t1, t2, t3, t4, t5, t6, t7, t8⟩ := id h.1.1
    have n31 := t8 (g + 31) (by omega)
    have n33 := t8 (g + 33) (by omega)
    have n35 := t8 (g + 35) (by omega)
    have l29 : gN σ (g + 29) = 480 := t4.2.2.2.1 _ (by omega) (by omega)
    subst j4
    have K := F217 G hv h j1 j2 s4 hx
    have N1 : N_139 N (g + 30) (nI (sb + q)) σ = some (nI (rnm X.1 j), σ) := by
      unfold N_139
      rw [if_pos (aB_nI (by show sb + q < gN σ (g + 31); omega) (by show gN σ (g + 31) < _; omega)), nI_clamp (by omega)]
      rw [show gE σ (g + 30 + 1) (sb + q) = nI (rnm X.1 j) from j3]
    have N2 : N_139 N (g + 34) (nI (sb + q)) σ = some (nI a, σ) := by
      unfold N_139
      rw [if_pos (aB_nI (by show sb + q < gN σ (g + 35); omega) (by show gN σ (g + 35) < _; omega)), nI_clamp (by omega)]
      rw [show gE σ (g + 34 + 1) (sb + q) = nI a from s3]
    have N3 : N_139 N (g + 32) (nI (sb + q)) σ = some (nI (kP w (bw T - 4)), σ) := by
      unfold N_139
      rw [if_pos (aB_nI (by show sb + q < gN σ (g + 33); omega) (by show gN σ (g + 33) < _; omega)), nI_clamp (by omega)]
      rw [show gE σ (g + 32 + 1) (sb + q) = nI (kP w (bw T - 4)) from s2]
    have r5c : gE σ (g + 29) (nI a0).toNatClampNeg = nI b.2.length := by rw [nI_clamp (by omega)]; exact r5
    have st : ∀ f, L_216 N g (f + 1) 59 l2 l3 (nI a0) (nI sb) (nI (sb + q)) 0 0 σ = (F_217 N g (nI (rnm X.1 j)) (nI a) (nI (kP w (bw T - 4))) σ).bind fun p => L_216 N g f 59 l2 l3 (nI a0) (nI sb) (nI (sb + (q + 1))) 0 0 p := fun f => by
      conv => lhs; unfold L_216
      rw [if_neg (by decide), if_pos rfl, if_pos (by rw [l29]; exact aB_nI b1 (by decide)), r5c, nI_add, if_neg (nle_nI (by omega) (by omega)), if_pos h.2.1, N1, ob_some]
      dsimp only
      rw [N2, ob_some]
      dsimp only
      rw [N3, ob_some]
      dsimp only
      rw [nI_1]
      rfl
    unfold xst
    cases hs : sbd (exv l w X.1 vs T) (fun v => xs1 l w X.1 T nx v) with
    | inl e =>
      rw [hs] at K
      rw [sbd_l]
      obtain ⟨s, k1, k2⟩ := K
      refine ⟨s, fun f => ?_, k2⟩
      rw [List.length_cons, show f + (S.length + 1) + 1 = f + S.length + 1 + 1 by omega, st, k1, ob_some]
      have ne := k2.ne
      obtain ⟨z0, z1, z2, z3⟩ := k2
      obtain ⟨y1, y2⟩ := b3 s z3.1
      have l29' : gN s (g + 29) = 480 := z3.1.2.2.2.1.2.2.2.1 _ (by omega) (by omega)
      unfold L_216
      rw [if_neg (by decide), if_pos rfl, if_pos (by rw [l29']; exact aB_nI b1 (by decide)), if_neg ne]
      split <;> rfl
    | inr nx' =>
      rw [hs] at K
      rw [sbd_r]
      obtain ⟨s, k1, k2, k3, k4⟩ := K
      have I := ih (q + 1) s nx' hd' (by omega) k2 k3
      cases hx2 : xst l w X.1 vs S nx' with
      | inl e =>
        rw [hx2] at I
        obtain ⟨s', i1, i2⟩ := I
        refine ⟨s', fun f => ?_, i2⟩
        rw [List.length_cons, show f + (S.length + 1) + 1 = f + S.length + 1 + 1 by omega, st, k1, ob_some, i1]
      | inr nx2 =>
        rw [hx2] at I
        obtain ⟨s', i1, i2, i3, i4⟩ := I
        refine ⟨s', fun f => ?_, i2, i3, Fr.t0 k4 i4⟩
        rw [List.length_cons, show f + (S.length + 1) = f + S.length + 1 by omega, st, k1, ob_some, i1]
/-- the values are copied -/
theorem L216c {V : Nat} (hV : V ≤ 12) {l2 l3 l4 : Int32} : ∀ (r v : Nat) (s : st_S), v + r = V → gI s g 12 = nI V → gN s 167 = 12 → gN s 184 = 12 → ∃ s', (∀ f, L_216 N g (f + r) 11 l2 l3 l4 (nI v) 0 0 0 s = L_216 N g f 11 l2 l3 l4 (nI V) 0 0 0 s') ∧ Fr 0 [] [] [] [184] [] s s' ∧ gN s' = gN s ∧ (∀ u, v ≤ u → u < V → gE s' 184 u = gE s 167 u) ∧ (∀ u, u < v → gE s' 184 u = gE s 184 u) := by
  intro r
  induction r with
  | zero =>
    intro v s hv _ _ _
    rw [Nat.add_zero] at hv
    subst hv
    exact ⟨s, fun f => rfl, Fr.rf s, rfl, fun u h1 h2 => by omega, fun _ _ => rfl⟩
  | succ r ih =>
    intro v s hv h1 h2 h3
    have st : ∀ f, L_216 N g (f + 1) 11 l2 l3 l4 (nI v) 0 0 0 s = L_216 N g f 11 l2 l3 l4 (nI (v + 1)) 0 0 0 (st_e s 184 v (gE s 167 v)) := fun f => by
      conv => lhs; unfold L_216
      rw [if_pos rfl, h1, if_neg (nle_nI (by omega) (by omega)), if_pos (aB_nI (by omega) (by omega)), if_pos (aB_nI (by omega) (by omega)), nI_clamp (by omega), nI_1]
    obtain ⟨s', a1, a2, a3, a4, a5⟩ := ih (v + 1) (st_e s 184 v (gE s 167 v)) (by omega) h1 h2 h3
    refine ⟨s', fun f => by rw [← Nat.add_assoc, st, a1], Fr.t0 (Fr.e s v _ (by simp)) a2, a3, fun u z1 z2 => ?_, fun u z => ?_⟩
    · by_cases c : u = v
      · subst c
        rw [a5 u (by omega), gE_e, if_pos ⟨rfl, rfl⟩]
      · rw [a4 u (by omega) z2, gE_e, if_neg (by omega)]
    · rw [a5 u (by omega), gE_e, if_neg (by omega)]
end RS8
