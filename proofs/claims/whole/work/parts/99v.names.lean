/-! the class's names -/
/-- words stand on the tape -/
def Pw (l : List Int32) (w : List (Nat × Nat × Nat)) : Prop := l.length ≤ 16384 ∧ ∀ k, kP w k ≤ kE w k ∧ kE w k ≤ l.length
theorem Pw.pl {l : List Int32} {w : List (Nat × Nat × Nat)} (h : Pw l w) : Pl w := fun i => by
  have := h.1
  have := h.2 i
  omega
def sm2 (l : List Int32) (a b : Nat) : Nat → Nat → Bool
  | 0, _ => true
  | f + 1, i => decide (ch l (a + i) = ch l (b + i)) && sm2 l a b f (i + 1)
theorem sm2_eq (l : List Int32) (a b : Nat) : ∀ f i, sm2 l a b f i = true ↔ ∀ j, j < f → ch l (a + (i + j)) = ch l (b + (i + j)) := by
  intro f
  induction f with
  | zero => intro i; exact ⟨fun _ j h => absurd h (Nat.not_lt_zero j), fun _ => rfl⟩
  | succ f ih =>
    intro i
    have e : sm2 l a b (f + 1) i = (decide (ch l (a + i) = ch l (b + i)) && sm2 l a b f (i + 1)) := rfl
    rw [e, Bool.and_eq_true_iff, decide_eq_true_iff, ih]
    constructor
    · intro ⟨h1, h2⟩ j hj
      cases j with
      | zero => exact h1
      | succ j =>
        have := h2 j (by omega)
        rw [show i + (j + 1) = i + 1 + j by omega]
        exact this
    · intro h
      refine ⟨h 0 (by omega), fun j hj => ?_⟩
      have := h (j + 1) (by omega)
      rw [show i + 1 + j = i + (j + 1) by omega]
      exact this
theorem swd_eq (l : List Int32) (w : List (Nat × Nat × Nat)) (a b : Nat) : swd l w a b = (decide (kE w a - kP w a = kE w b - kP w b) && sm2 l (kP w a) (kP w b) (kE w a - kP w a) 0) := by
  unfold swd
  congr 1
  apply Bool.eq_iff_iff.mpr
  rw [sm2_eq, List.all_eq_true]
  constructor
  · intro h j hj
    have := h j (List.mem_range.mpr hj)
    rw [Nat.zero_add]
    exact of_decide_eq_true this
  · intro h j hj
    have := h j (List.mem_range.mp hj)
    rw [Nat.zero_add] at this
    exact decide_eq_true this
section NM
variable {N : Nat} {σ : st_S} {l : List Int32} {w : List (Nat × Nat × Nat)}
theorem Wd.at (h : Wd σ l) {i : Nat} (hi : i < l.length) : aB (nI i) (gN σ 3) ∧ gE σ 3 (nI i).toNatClampNeg = ch l i := by
  obtain ⟨h1, h2, h3, h4, h5⟩ := h
  refine ⟨aB_nI (by omega) (by omega), ?_⟩
  rw [nI_clamp (by omega), ch_lt hi]
  exact h5 i hi
theorem L60 (h : Wd σ l) {a b n : Nat} (ha : a + n ≤ l.length) (hb : b + n ≤ l.length) : ∀ f i k, i + f = n → f < k → L_60 N k (nI a) (nI b) (nI n) (nI i) σ = some (bI (sm2 l a b f i), σ) := by
  have h4 := h.2.2.2.1
  intro f
  induction f with
  | zero =>
    intro i k hi hk
    obtain ⟨k, rfl⟩ : ∃ k', k = k' + 1 := ⟨k - 1, by omega⟩
    unfold L_60
    rw [if_pos ((nI_lei (by omega) (by omega)).mpr (by omega))]
    rfl
  | succ f ih =>
    intro i k hi hk
    obtain ⟨k, rfl⟩ : ∃ k', k = k' + 1 := ⟨k - 1, by omega⟩
    obtain ⟨a1, a2⟩ := h.at (i := a + i) (by omega)
    obtain ⟨b1, b2⟩ := h.at (i := b + i) (by omega)
    have e : sm2 l a b (f + 1) i = (decide (ch l (a + i) = ch l (b + i)) && sm2 l a b f (i + 1)) := rfl
    conv => lhs; unfold L_60
    rw [if_neg (fun q => by have := (nI_lei (by omega) (by omega)).mp q; omega), nI_add, nI_add, if_pos a1, if_pos b1, a2, b2, e]
    by_cases c : ch l (a + i) = ch l (b + i)
    · rw [if_pos c, nI_1, ih (i + 1) k (by omega) (by omega), decide_eq_true c]
      rfl
    · rw [if_neg c, decide_eq_false c]
      rfl
/-- a name's number in the class's lists -/
def srt (s : Nat) : Nat := s + 26
/-- the names stand in the class's lists; X: what their index says -/
def NA (σ : st_S) (w : List (Nat × Nat × Nat)) (E : List En) (X : Nat → Nat) : Prop := gI σ 47 5 = nI E.length ∧ E.length ≤ 72 ∧ gN σ 48 = 72 ∧ gN σ 49 = 72 ∧ gN σ 50 = 72 ∧ gN σ 51 = 72 ∧ ∀ j, j < E.length → gE σ 48 j = nI (kP w (E.getD j eN).1) ∧ gE σ 49 j = nI (kE w (E.getD j eN).1 - kP w (E.getD j eN).1) ∧ gE σ 50 j = nI (srt (E.getD j eN).2.1) ∧ gE σ 51 j = nI (X j)
theorem F59 (hN : 20000 < N) (h : Wd σ l) (hP : Pw l w) {E : List En} {X : Nat → Nat} (hA : NA σ w E X) (q : Nat) : F_59 N (nI (kP w q)) (nI (kE w q - kP w q)) σ = some (match fnd l w E q with
    | none => -1
    | some j => nI j, σ) := by
  obtain ⟨n1, n2, n3, n4, n5, n6, n7⟩ := hA
  obtain ⟨p0, p1⟩ := hP
  have pq := p1 q
  have key : ∀ (t : List En) (i k : Nat), i ≤ E.length → E.drop i = t → t.length < k → L_59 N k (nI (kP w q)) (nI (kE w q - kP w q)) (nI i) σ = some (match t.findIdx? (fun e => swd l w e.1 q) with
    | none => -1
    | some j => nI (i + j), σ) := by
    intro t
    induction t with
    | nil =>
      intro i k hiE ht hk
      obtain ⟨k, rfl⟩ : ∃ k', k = k' + 1 := ⟨k - 1, by omega⟩
      have hi : E.length ≤ i := List.drop_eq_nil_iff.mp ht
      unfold L_59
      rw [n1, if_pos ((nI_lei (by omega) (by omega)).mpr hi)]
      rfl
    | cons e t ih =>
      intro i k hiE ht hk
      obtain ⟨k, rfl⟩ : ∃ k', k = k' + 1 := ⟨k - 1, by omega⟩
      have hi : i < E.length := by
        apply Nat.lt_of_not_le
        intro z
        rw [List.drop_eq_nil_iff.mpr z] at ht
        cases ht
      have hg : E.getD i eN = e := by
        have : (E.drop i)[0]? = some e := by rw [ht]; rfl
        rw [List.getElem?_drop, Nat.add_zero] at this
        rw [List.getD_eq_getElem?_getD, this]
        rfl
      have ht' : E.drop (i + 1) = t := by rw [← List.drop_drop, ht]; rfl
      obtain ⟨m1, m2, -, -⟩ := n7 i hi
      rw [hg] at m1 m2
      have pe := p1 e.1
      have cl : (nI i).toNatClampNeg = i := nI_clamp (by omega)
      have a49 : aB (nI i) (gN σ 49) := by rw [n4]; exact aB_nI (by omega) (by decide)
      have a48 : aB (nI i) (gN σ 48) := by rw [n3]; exact aB_nI (by omega) (by decide)
      have e59 : ∀ x, L_59 N k (nI (kP w q)) (nI (kE w q - kP w q)) x σ = L_59 N k (nI (kP w q)) (nI (kE w q - kP w q)) x σ := fun _ => rfl
      have nx : L_59 N k (nI (kP w q)) (nI (kE w q - kP w q)) (nI (i + 1)) σ = some (match t.findIdx? (fun e => swd l w e.1 q) with
        | none => -1
        | some j => nI (i + 1 + j), σ) := ih (i + 1) k (by omega) ht' (by have : (e :: t).length < k + 1 := hk; rw [List.length_cons] at this; omega)
      have nx' : (match t.findIdx? (fun e => swd l w e.1 q) with
        | none => (-1 : Int32)
        | some j => nI (i + 1 + j)) = (match (t.findIdx? (fun e => swd l w e.1 q)).map (· + 1) with
        | none => (-1 : Int32)
        | some j => nI (i + j)) := by
        cases t.findIdx? (fun e => swd l w e.1 q) with
        | none => rfl
        | some j => show nI (i + 1 + j) = nI (i + (j + 1)); exact congrArg nI (by omega)
      have ef : (e :: t).findIdx? (fun e => swd l w e.1 q) = if swd l w e.1 q then some 0 else (t.findIdx? (fun e => swd l w e.1 q)).map (· + 1) := List.findIdx?_cons
      rw [ef]
      conv => lhs; unfold L_59
      rw [n1, if_neg (fun z => by have := (nI_lei (by omega) (by omega)).mp z; omega), if_pos a49]
      simp only [cl, m2]
      have sw := swd_eq l w e.1 q
      by_cases c : kE w e.1 - kP w e.1 = kE w q - kP w q
      · rw [if_pos (by rw [c]), if_pos a48, m1]
        have e60 : F_60 N (nI (kP w e.1)) (nI (kP w q)) (nI (kE w q - kP w q)) σ = some (bI (sm2 l (kP w e.1) (kP w q) (kE w q - kP w q) 0), σ) := L60 h (by omega) (by omega) (kE w q - kP w q) 0 N (by omega) (by omega)
        rw [e60, ob_some]
        dsimp only
        rw [decide_eq_true c, Bool.true_and, c] at sw
        rw [sw]
        cases hb : sm2 l (kP w e.1) (kP w q) (kE w q - kP w q) 0 with
        | false =>
          rw [if_pos (by decide), nI_1, nx, nx', if_neg Bool.false_ne_true]
        | true =>
          rw [if_neg (by decide), if_pos rfl]
          rfl
      · rw [if_neg (fun z => c ((nI_eq (by omega) (by omega)).mp z)), nI_1, nx, nx']
        rw [decide_eq_false c, Bool.false_and] at sw
        rw [sw, if_neg Bool.false_ne_true]
  have := key E 0 N (Nat.zero_le _) rfl (by omega)
  unfold F_59
  have e0 : ∀ j, nI (0 + j) = nI j := fun j => by rw [Nat.zero_add]
  rw [show (0 : Int32) = nI 0 from rfl, this]
  unfold fnd
  cases E.findIdx? (fun e => swd l w e.1 q) with
  | none => rfl
  | some j => dsimp only; rw [e0]
end NM
