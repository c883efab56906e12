/-! the class's checker: branches and sets -/
theorem pig : ∀ (m : Nat) (S : List Nat), S.Nodup → (∀ x ∈ S, x < m) → S.length ≤ m := by
  intro m
  induction m with
  | zero =>
    intro S _ h
    cases S with
    | nil => exact Nat.le_refl _
    | cons x S => exact absurd (h x (List.mem_cons_self ..)) (by omega)
  | succ m ih =>
    intro S hn h
    by_cases c : m ∈ S
    · have e := List.length_erase_of_mem c
      have := ih (S.erase m) (hn.erase m) (fun x hx => by
        have h1 := h x (List.mem_of_mem_erase hx)
        have h2 : x ≠ m := fun z => by rw [z] at hx; exact hn.not_mem_erase hx
        omega)
      omega
    · have := ih S hn (fun x hx => by
        have h1 := h x hx
        have h2 : x ≠ m := fun z => c (z ▸ hx)
        omega)
      omega
/-- a chain of sets -/
def Chn (n : Nat) (M : Nat → Nat → Int32) : Int32 → List Nat → Prop
  | v, [] => v = -1
  | v, s :: S => v = nI s ∧ s < n ∧ Chn n M (M s 4) S
section MK
variable {N : Nat} {σ : st_S} {t n : Nat} {M : Nat → Nat → Int32}
theorem br_ok (q : CS σ t n M) {i pl c u : Nat} (hi : i < n) (e0 : M i 0 = nI 32) (e1 : M i 1 = nI pl) (h11 : gI σ 46 11 = nI c) (hc : c ≤ 8) (hu : u < n) (hu0 : c = 0 → gI σ 46 5 = nI u) (hu1 : c ≠ 0 → gI σ 46 10 = nI u) : (8 ≤ c → ∃ σ', Sft N t σ i 1 5 σ' ∧ gI σ' 46 4 = nI pl ∧ F6 σ σ') ∧ (c < 8 → Sgo N t σ i (st_i (st_i (st_i (st_e σ (t + 6) u (nI i)) 46 10 (nI i)) 46 11 (nI (c + 1))) 46 12 (-1)) 1) := by
  have hn := q.2.1
  have a2 : aB (nI i) (gN σ (t + 2)) := q.a (c := 0) (by decide) hi
  have a3 : aB (nI i) (gN σ (t + 3)) := q.a (c := 1) (by decide) hi
  have g2 : gE σ (t + 2) (nI i).toNatClampNeg = nI 32 := (q.g (c := 0) (by decide) hi).trans e0
  have g3 : gE σ (t + 3) (nI i).toNatClampNeg = nI pl := (q.g (c := 1) (by decide) hi).trans e1
  have a6 : aB (nI u) (gN σ (t + 6)) := q.a (c := 4) (by decide) hu
  have l53 := fun k' => L53h (N := N) (k := k') q hi (by decide) (by decide) e0
  have k8 : nI c < 8 ↔ c < 8 := nI_lti (b := 8) (by omega) (by decide)
  have uu : (if gI σ 46 11 = 0 then gI σ 46 5 else gI σ 46 10 : Int32) = nI u := by
    rw [h11]
    by_cases z : c = 0
    · rw [if_pos (show nI c = 0 by rw [z]; rfl)]; exact hu0 z
    · rw [if_neg (show ¬ nI c = 0 from nik (m := 0) (by omega) (by decide) z)]; exact hu1 z
  have f84 : F_84 N t (nI i) σ = if c < 8 then some (0, st_i (st_i (st_i (st_e σ (t + 6) u (nI i)) 46 10 (nI i)) 46 11 (nI (c + 1))) 46 12 (-1)) else some (5, st_i σ 46 4 (nI pl)) := by
    unfold F_84 F_88
    rw [if_pos a2]
    simp only [g2]
    rw [if_neg (show ¬ nI 32 = 26 by decide), if_neg (show ¬ nI 32 = 27 by decide), if_neg (show ¬ nI 32 = 28 by decide), if_neg (show ¬ nI 32 = 29 by decide), if_neg (show ¬ nI 32 = 30 by decide), if_neg (show ¬ nI 32 = 31 by decide), if_pos (show nI 32 = 32 from rfl)]
    by_cases z : c < 8
    · rw [if_pos z, if_pos (show gI σ 46 11 < 8 by rw [h11]; exact k8.mpr z), uu, if_pos a6, h11, nI_1, nI_clamp (by omega)]
      rfl
    · rw [if_neg z, if_neg (show ¬ gI σ 46 11 < 8 by rw [h11]; exact fun y => z (k8.mp y)), if_pos a3, g3]
      rfl
  constructor
  · intro z
    rw [if_neg (by omega)] at f84
    refine ⟨_, fun k' => ?_, by rw [gI_i, if_pos ⟨rfl, rfl⟩], F6.i _ _ (by omega)⟩
    rw [l53, f84, ob_some]
    rfl
  · intro z k'
    rw [if_pos z] at f84
    rw [l53, f84, ob_some]
    rfl
theorem L89' (q : CS σ t n M) {i x : Nat} {pl : Int32} : ∀ (S : List Nat) (v : Int32) (c k : Nat), Chn n M v S → c + S.length ≤ 12 → S.length < k → L_89 N t k (nI i) pl (nI x) v (nI c) σ = if ∃ s ∈ S, M s 2 = nI x then some (4, st_i σ 46 4 pl) else J_89_133 N t (nI i) (nI x) σ := by
  have hn := q.2.1
  intro S
  induction S with
  | nil =>
    intro v c k hv hc hk
    obtain ⟨k, rfl⟩ : ∃ k', k = k' + 1 := ⟨k - 1, by omega⟩
    have hv : v = -1 := hv
    subst hv
    have hc : c ≤ 12 := hc
    rw [if_neg (by simp)]
    unfold L_89
    rw [if_pos (show (-1 : Int32) < 0 by decide)]
    split <;> rfl
  | cons s S ih =>
    intro v c k hv hc hk
    obtain ⟨k, rfl⟩ : ∃ k', k = k' + 1 := ⟨k - 1, by omega⟩
    obtain ⟨rfl, hs, hv⟩ := hv
    rw [List.length_cons] at hc hk
    have a4 : aB (nI s) (gN σ (t + 4)) := q.a (c := 2) (by decide) hs
    have g4 : gE σ (t + 4) (nI s).toNatClampNeg = M s 2 := q.g (c := 2) (by decide) hs
    have a6 : aB (nI s) (gN σ (t + 6)) := q.a (c := 4) (by decide) hs
    have g6 : gE σ (t + 6) (nI s).toNatClampNeg = M s 4 := q.g (c := 4) (by decide) hs
    unfold L_89
    rw [if_neg (show ¬ 12 ≤ nI c from fun z => by have := (nI_lei (a := 12) (by decide) (by omega)).mp z; omega), if_neg (show ¬ nI s < 0 from fun z => by have := (nI_lti (b := 0) (by omega) (by decide)).mp z; omega), if_pos a4, g4]
    by_cases e : M s 2 = nI x
    · rw [if_pos e, if_pos ⟨s, List.mem_cons_self .., e⟩]
      rfl
    · rw [if_neg e, if_pos a6, g6, nI_1, ih (M s 4) (c + 1) k hv (by omega) (by omega)]
      by_cases z : ∃ s' ∈ S, M s' 2 = nI x
      · obtain ⟨s', z1, z2⟩ := z
        rw [if_pos ⟨s', z1, z2⟩, if_pos ⟨s', List.mem_cons_of_mem _ z1, z2⟩]
      · rw [if_neg z, if_neg (fun ⟨s', z1, z2⟩ => by
          rcases List.mem_cons.mp z1 with y | y
          · rw [y] at z2; exact e z2
          · exact z ⟨s', y, z2⟩)]
variable {l : List Int32} {w : List (Nat × Nat × Nat)} {E : List En} {X : Nat → Nat}
/-- what a set leaves -/
def sef (σ : st_S) (t i x b : Nat) (s : Option Nat) : st_S := st_i (st_e (match s with
  | some s => st_e σ (t + 6) s (nI i)
  | none => st_e σ (t + 5) b (nI i)) (t + 4) i (nI x)) 46 12 (nI i)
theorem st_ok (ht : t = 4 ∨ t = 20) (hN : 20000 < N) (hP : Pw l w) (q : CS σ t n M) (hw : Wd σ l) (hA : NA σ w E X) {i k b : Nat} {S : List Nat} {s : Option Nat} (hi : i < n) (e0 : M i 0 = nI 33) (e2 : M i 2 = nI (kP w k)) (e3 : M i 3 = nI (kE w k - kP w k)) (h10 : gI σ 46 10 = nI b) (hb : b < n) (hS : Chn n M (M b 3) S) (hS12 : S.length ≤ 12) (h12 : gI σ 46 12 = match s with
    | some s => nI s
    | none => -1) (hs : ∀ s', s = some s' → s' < n) (hsr : ∀ j, j < E.length → 1 ≤ (E.getD j eN).2.1 ∧ (E.getD j eN).2.1 ≤ 3) : match fnd l w E k with
    | none => ∃ σ', Sft N t σ i 1 2 σ' ∧ gI σ' 46 4 = nI (kP w k) ∧ F6 σ σ'
    | some j => if (E.getD j eN).2.1 ≠ 3 then ∃ σ', Sft N t σ i 1 2 σ' ∧ gI σ' 46 4 = nI (kP w k) ∧ F6 σ σ' else if ∃ s ∈ S, M s 2 = nI (X j) then ∃ σ', Sft N t σ i 1 4 σ' ∧ gI σ' 46 4 = nI (kP w k) ∧ F6 σ σ' else Sgo N t σ i (sef σ t i (X j) b s) 1 := by
  have hn := q.2.1
  have a2 : aB (nI i) (gN σ (t + 2)) := q.a (c := 0) (by decide) hi
  have a4 : aB (nI i) (gN σ (t + 4)) := q.a (c := 2) (by decide) hi
  have a5 : aB (nI i) (gN σ (t + 5)) := q.a (c := 3) (by decide) hi
  have g2 : gE σ (t + 2) (nI i).toNatClampNeg = nI 33 := (q.g (c := 0) (by decide) hi).trans e0
  have g4 : gE σ (t + 4) (nI i).toNatClampNeg = nI (kP w k) := (q.g (c := 2) (by decide) hi).trans e2
  have g5 : gE σ (t + 5) (nI i).toNatClampNeg = nI (kE w k - kP w k) := (q.g (c := 3) (by decide) hi).trans e3
  have b5 : aB (nI b) (gN σ (t + 5)) := q.a (c := 3) (by decide) hb
  have gb : gE σ (t + 5) (nI b).toNatClampNeg = M b 3 := q.g (c := 3) (by decide) hb
  have l53 := fun k' => L53h (N := N) (k := k') q hi (by decide) (by decide) e0
  have f59 := F59 (N := N) hN hw hP hA k
  have f84 : F_84 N t (nI i) σ = F_89 N t (nI i) σ := by
    unfold F_84
    rw [if_pos a2]
    simp only [g2]
    rw [if_neg (show ¬ nI 33 = 26 by decide), if_neg (show ¬ nI 33 = 27 by decide), if_neg (show ¬ nI 33 = 28 by decide), if_neg (show ¬ nI 33 = 29 by decide), if_neg (show ¬ nI 33 = 30 by decide), if_neg (show ¬ nI 33 = 31 by decide), if_neg (show ¬ nI 33 = 32 by decide)]
    cases F_89 N t (nI i) σ <;> rfl
  have bad : ∀ f, f ≠ 0 → f < 20 → F_84 N t (nI i) σ = some (nI f, st_i σ 46 4 (nI (kP w k))) → ∃ σ', Sft N t σ i 1 f σ' ∧ gI σ' 46 4 = nI (kP w k) ∧ F6 σ σ' := fun f hf hf2 e => ⟨_, fun k' => by
    rw [l53, e, ob_some]
    dsimp only
    rw [if_neg (show ¬ nI f = 0 from nik (m := 0) (by omega) (by decide) hf)], by rw [gI_i, if_pos ⟨rfl, rfl⟩], F6.i _ _ (by omega)⟩
  unfold F_89 at f84
  rw [if_pos a4, if_pos a5] at f84
  simp only [g4, g5] at f84
  rw [f59, ob_some] at f84
  cases hf : fnd l w E k with
  | none =>
    rw [hf] at f84
    dsimp only at f84 ⊢
    rw [if_pos (show (-1 : Int32) < 0 by decide)] at f84
    exact bad 2 (by decide) (by decide) f84
  | some j =>
    rw [hf] at f84
    dsimp only at f84 ⊢
    obtain ⟨n1, n2, n3, n4, n5, n6, n7⟩ := hA
    have lt : j < E.length := (List.findIdx?_eq_some_iff_getElem.mp (show E.findIdx? (fun e => swd l w e.1 k) = some j from hf)).1
    obtain ⟨-, -, s50, s51⟩ := n7 j lt
    have := hsr j lt
    have a50 : aB (nI j) (gN σ 50) := by rw [n5]; exact aB_nI (by omega) (by decide)
    have a51 : aB (nI j) (gN σ 51) := by rw [n6]; exact aB_nI (by omega) (by decide)
    have clj : (nI j).toNatClampNeg = j := nI_clamp (by omega)
    rw [if_neg (fun z => by have := (nI_lti (b := 0) (by omega) (by decide)).mp z; omega), if_pos a50] at f84
    simp only [clj, s50, s51] at f84
    by_cases c3 : (E.getD j eN).2.1 = 3
    · rw [if_neg (fun z => z c3)]
      rw [if_pos (show nI (srt (E.getD j eN).2.1) = 29 by rw [c3]; rfl), if_pos a51, h10, if_pos b5] at f84
      simp only [gb] at f84
      have L := L89' (N := N) (i := i) (x := X j) (pl := nI (kP w k)) q S (M b 3) 0 N hS (by omega) (by omega)
      have e00 : (nI 0 : Int32) = 0 := rfl
      rw [e00] at L
      rw [L] at f84
      by_cases z : ∃ s ∈ S, M s 2 = nI (X j)
      · rw [if_pos z]
        rw [if_pos z] at f84
        exact bad 4 (by decide) (by decide) f84
      · rw [if_neg z]
        rw [if_neg z] at f84
        have J : J_89_133 N t (nI i) (nI (X j)) σ = some (0, sef σ t i (X j) b s) := by
          unfold J_89_133 J_89_169 sef
          cases s with
          | none =>
            dsimp only at h12 ⊢
            rw [h12, if_neg (show ¬ (0 : Int32) ≤ -1 by decide), h10, if_pos b5]
            rw [if_pos (show aB (nI i) (gN (st_e σ (t + 5) (nI b).toNatClampNeg (nI i)) (t + 4)) from a4), nI_clamp (by omega), nI_clamp (by omega)]
          | some s =>
            dsimp only at h12 ⊢
            have hs := hs s rfl
            have s6 : aB (nI s) (gN σ (t + 6)) := q.a (c := 4) (by decide) hs
            rw [h12, if_pos (show (0 : Int32) ≤ nI s from (nI_lei (a := 0) (by decide) (by omega)).mpr (by omega)), if_pos s6]
            rw [if_pos (show aB (nI i) (gN (st_e σ (t + 6) (nI s).toNatClampNeg (nI i)) (t + 4)) from a4), nI_clamp (by omega), nI_clamp (by omega)]
        rw [J] at f84
        intro k'
        rw [l53, f84, ob_some]
        rfl
    · rw [if_pos c3]
      rw [if_neg (show ¬ nI (srt (E.getD j eN).2.1) = 29 from fun z => c3 (by
        unfold srt at z
        have := (nI_eq (b := 29) (by omega) (by decide)).mp z
        omega))] at f84
      exact bad 2 (by decide) (by decide) f84
end MK
