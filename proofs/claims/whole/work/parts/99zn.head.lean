/-! the class's checker: the head of an item -/
/-- lengths -/
def LN (σ : st_S) (t : Nat) : Prop := gN σ (t + 10) = 12 ∧ gN σ (t + 11) = 12 ∧ gN σ (t + 12) = 12 ∧ gN σ (t + 13) = 12 ∧ gN σ (t + 14) = 60 ∧ gN σ (t + 15) = 60 ∧ gN σ 43 = 12 ∧ gN σ 44 = 60 ∧ gN σ 45 = 60
/-- the tables of a text: hs, where its commands stand; tge: where the target's rule ends, or -1 -/
def SP (σ : st_S) (t : Nat) (w : List (Nat × Nat × Nat)) (E : List En) (X fs : Nat → Nat) (tge : Int32) (nc : Nat) (hs : Nat → Nat) : Prop := NA σ w E X ∧ LN σ t ∧ (gI σ t 7 = nI (cnt E 3) ∧ gI σ t 8 = nI (cnt E 1 + cnt E 2) ∧ gI σ t 9 = nI (cnt E 2) ∧ gI σ t 10 = nI nc ∧ gI σ t 11 = tge) ∧ (cnt E 3 ≤ 12 ∧ cnt E 1 + cnt E 2 ≤ 60 ∧ nc ≤ 60) ∧
  (∀ j, j < E.length → (E.getD j eN).2.1 = 3 → X j < 12 ∧ gE σ (t + 10) (X j) = (E.getD j eN).2.2.2.2.2.1.1 ∧ gE σ (t + 11) (X j) = (E.getD j eN).2.2.2.2.2.1.2.1 ∧ gE σ (t + 12) (X j) = (E.getD j eN).2.2.2.2.2.1.2.2 ∧ gE σ (t + 13) (X j) = nI (kdn (E.getD j eN))) ∧
  (∀ j, j < E.length → (E.getD j eN).2.1 = 2 → gE σ (t + 14) (X j) = nI (fs j + tln (fTr E j))) ∧ (∀ i, i < nc → gE σ (t + 15) i = nI (hs i))
/-- the tables stay -/
def Kp (t : Nat) (σ σ' : st_S) : Prop := gN σ' = gN σ ∧ (∀ a k, (a = 47 ∧ k = 5 ∨ a = t ∧ 7 ≤ k ∧ k ≤ 11 ∨ a = 42 ∧ k = 5) → gI σ' a k = gI σ a k) ∧ (∀ a, (48 ≤ a ∧ a ≤ 51 ∨ t + 10 ≤ a ∧ a ≤ t + 15) → gE σ' a = gE σ a)
section KPS
variable {t : Nat} {σ σ' σ'' : st_S}
theorem Kp.rf (σ : st_S) : Kp t σ σ := ⟨rfl, fun _ _ _ => rfl, fun _ _ => rfl⟩
theorem Kp.tr (h : Kp t σ σ') (h' : Kp t σ' σ'') : Kp t σ σ'' := ⟨h'.1.trans h.1, fun a k q => (h'.2.1 a k q).trans (h.2.1 a k q), fun a q => (h'.2.2 a q).trans (h.2.2 a q)⟩
theorem SP.kp {w : List (Nat × Nat × Nat)} {E : List En} {X fs : Nat → Nat} {tge : Int32} {nc : Nat} {hs : Nat → Nat} (h : SP σ t w E X fs tge nc hs) (k : Kp t σ σ') : SP σ' t w E X fs tge nc hs := by
  obtain ⟨⟨a1, a2, a3, a4, a5, a6, a7⟩, h2, ⟨b1, b2, b3, b4, b5⟩, h4, h5, h6, h7⟩ := h
  obtain ⟨k1, k2, k3⟩ := k
  refine ⟨⟨?_, a2, by rw [k1]; exact a3, by rw [k1]; exact a4, by rw [k1]; exact a5, by rw [k1]; exact a6, ?_⟩, ?_, ⟨?_, ?_, ?_, ?_, ?_⟩, h4, ?_, ?_, ?_⟩
  · rw [k2 47 5 (Or.inl ⟨rfl, rfl⟩)]; exact a1
  · rw [k3 48 (by omega), k3 49 (by omega), k3 50 (by omega), k3 51 (by omega)]; exact a7
  · unfold LN; rw [k1]; exact h2
  · rw [k2 t 7 (by omega)]; exact b1
  · rw [k2 t 8 (by omega)]; exact b2
  · rw [k2 t 9 (by omega)]; exact b3
  · rw [k2 t 10 (by omega)]; exact b4
  · rw [k2 t 11 (by omega)]; exact b5
  · rw [k3 (t + 10) (by omega), k3 (t + 11) (by omega), k3 (t + 12) (by omega), k3 (t + 13) (by omega)]; exact h5
  · rw [k3 (t + 14) (by omega)]; exact h6
  · rw [k3 (t + 15) (by omega)]; exact h7
theorem FN.kp (ht : t = 4 ∨ t = 20) (h : FN t σ σ') : Kp t σ σ' := by
  obtain ⟨h1, h2, h3⟩ := h
  refine ⟨h2, fun a k q => h1.1 a k ?_, fun a q => (h1.2.2.2.1 a ?_).2⟩
  · simp only [List.mem_cons, List.not_mem_nil, or_false, Prod.mk.injEq]
    omega
  · simp only [List.mem_cons, List.not_mem_nil, or_false]
    omega
/-- the checker's own numbers alone -/
def F6 (σ σ' : st_S) : Prop := Fr 0 [(46, 4), (46, 5), (46, 6), (46, 7), (46, 8), (46, 9), (46, 10), (46, 11), (46, 12)] [] [] [] [] σ σ' ∧ gN σ' = gN σ ∧ gC σ' = gC σ ∧ gE σ' = gE σ
theorem F6.rf (σ : st_S) : F6 σ σ := ⟨Fr.rf σ, rfl, rfl, rfl⟩
theorem F6.tr (h : F6 σ σ') (h' : F6 σ' σ'') : F6 σ σ'' := ⟨Fr.t0 h.1 h'.1, h'.2.1.trans h.2.1, h'.2.2.1.trans h.2.2.1, h'.2.2.2.trans h.2.2.2⟩
theorem F6.i (σ : st_S) {k : Nat} (v : Int32) (h : 4 ≤ k ∧ k ≤ 12) : F6 σ (st_i σ 46 k v) := ⟨Fr.i σ v (by
  have q : k = 4 ∨ k = 5 ∨ k = 6 ∨ k = 7 ∨ k = 8 ∨ k = 9 ∨ k = 10 ∨ k = 11 ∨ k = 12 := by omega
  rcases q with rfl | rfl | rfl | rfl | rfl | rfl | rfl | rfl | rfl <;> simp), rfl, rfl, rfl⟩
theorem F6.kp (ht : t = 4 ∨ t = 20) (h : F6 σ σ') : Kp t σ σ' := ⟨h.2.1, fun a k q => h.1.1 a k (by
  simp only [List.mem_cons, List.not_mem_nil, or_false, Prod.mk.injEq]
  omega), fun a _ => by rw [h.2.2.2]⟩
theorem F6.fk (h : F6 σ σ') : FK t σ σ' := ⟨h.1.mo (by intro a q; simp only [List.mem_cons, List.not_mem_nil, or_false] at q ⊢; rcases q with q | q | q | q | q | q | q | q | q <;> simp [q]) (by simp) (by simp) (by simp) (by simp), h.2.1, h.2.2.1⟩
theorem F6.cs (ht : t = 4 ∨ t = 20) {n : Nat} {M : Nat → Nat → Int32} (h : F6 σ σ') (q : CS σ t n M) : CS σ' t n M := by
  obtain ⟨q1, q2, q3, q4⟩ := q
  refine ⟨?_, q2, by rw [h.2.1]; exact q3, by rw [h.2.2.2]; exact q4⟩
  rw [h.1.1 (t + 1) 8 (by simp only [List.mem_cons, List.not_mem_nil, or_false, Prod.mk.injEq]; omega)]
  exact q1
theorem F6.wd {l : List Int32} (h : F6 σ σ') (q : Wd σ l) : Wd σ' l := by
  obtain ⟨q1, q2, q3, q4, q5⟩ := q
  refine ⟨?_, by rw [h.2.1]; exact q2, by rw [h.2.1]; exact q3, q4, by rw [h.2.2.2]; exact q5⟩
  rw [h.1.1 2 1 (by simp)]
  exact q1
theorem F6.un (h : F6 σ σ') (q : Unm σ) : Unm σ' := by
  unfold Unm
  rw [h.2.2.2, h.1.1 42 5 (by simp)]
  exact q
end KPS
section HD
variable {N : Nat} {σ : st_S} {t n : Nat} {M : Nat → Nat → Int32} {l : List Int32} {w : List (Nat × Nat × Nat)} {E : List En} {X fs : Nat → Nat} {tge : Int32} {nc : Nat} {hs : Nat → Nat}
theorem L53h (h : CS σ t n M) {i op k : Nat} (hi : i < n) (ho : 26 ≤ op) (ho2 : op < 34) (e0 : M i 0 = nI op) : L_53 N t (k + 1) (nI i) σ = (F_84 N t (nI i) σ).bind fun p => if p.1 = 0 then L_53 N t k (nI (i + 1)) p.2 else some (p.1, p.2) := by
  have a2 : aB (nI i) (gN σ (t + 2)) := h.a (c := 0) (by decide) hi
  have g2 : gE σ (t + 2) (nI i).toNatClampNeg = nI op := (h.g (c := 0) (by decide) hi).trans e0
  have hn := h.2.1
  conv => lhs; unfold L_53
  rw [h.1, if_neg (fun z => by have := (nI_lei (by omega) (by omega)).mp z; omega), if_pos a2]
  simp only [g2]
  rw [if_pos (show 26 ≤ nI op from (nI_lei (a := 26) (by decide) (by omega)).mpr ho), if_neg (show ¬ nI op = 34 from nik (m := 34) (by omega) (by decide) (by omega)), nI_1]
theorem L53f (h : CS σ t n M) {i k : Nat} (hi : i < n) (e0 : M i 0 = nI 34) : L_53 N t (k + 1) (nI i) σ = (F_67 N t σ).bind fun p => if p.1 = 0 then L_53 N t k (nI (i + 1)) p.2 else some (p.1, p.2) := by
  have a2 : aB (nI i) (gN σ (t + 2)) := h.a (c := 0) (by decide) hi
  have g2 : gE σ (t + 2) (nI i).toNatClampNeg = nI 34 := (h.g (c := 0) (by decide) hi).trans e0
  have hn := h.2.1
  conv => lhs; unfold L_53
  rw [h.1, if_neg (fun z => by have := (nI_lei (by omega) (by omega)).mp z; omega), if_pos a2]
  simp only [g2]
  rw [if_pos (show 26 ≤ nI 34 by decide), if_pos (show nI 34 = 34 from rfl), nI_1]
/-- a name is new -/
theorem F87' (ht : t = 4 ∨ t = 20) (hN : 20000 < N) (hP : Pw l w) (q : CS σ t n M) (hw : Wd σ l) (hA : NA σ w E X) {h k : Nat} (hh : h < n) (e1 : M h 1 = nI (kP w k)) (e2 : M h 2 = nI (kP w (k + 1))) (e3 : M h 3 = nI (kE w (k + 1) - kP w (k + 1))) (b : Bool) : F_87 N t (nI h) (if b then 0 else 1) σ = (if b then (match fnd l w E (k + 1) with
    | none => some ((0 : Int32), st_i σ 46 5 (nI h))
    | some _ => some ((2 : Int32), st_i (st_i σ 46 5 (nI h)) 46 4 (nI (kP w (k + 1))))) else some ((5 : Int32), st_i (st_i σ 46 5 (nI h)) 46 4 (nI (kP w k)))) := by
  have a3 : aB (nI h) (gN σ (t + 3)) := q.a (c := 1) (by decide) hh
  have a4 : aB (nI h) (gN σ (t + 4)) := q.a (c := 2) (by decide) hh
  have a5 : aB (nI h) (gN σ (t + 5)) := q.a (c := 3) (by decide) hh
  have g3 : gE σ (t + 3) (nI h).toNatClampNeg = nI (kP w k) := (q.g (c := 1) (by decide) hh).trans e1
  have g4 : gE σ (t + 4) (nI h).toNatClampNeg = nI (kP w (k + 1)) := (q.g (c := 2) (by decide) hh).trans e2
  have g5 : gE σ (t + 5) (nI h).toNatClampNeg = nI (kE w (k + 1) - kP w (k + 1)) := (q.g (c := 3) (by decide) hh).trans e3
  have f := F59 (N := N) (σ := st_i σ 46 5 (nI h)) hN ((F6.i σ (nI h) (by omega)).wd hw) hP (show NA (st_i σ 46 5 (nI h)) w E X from ⟨(gI_i _ _ _ _ _ _).trans ((if_neg (by simp)).trans hA.1), hA.2⟩) (k + 1)
  have ge : gE (st_i σ 46 5 (nI h)) (t + 3) (nI h).toNatClampNeg = nI (kP w k) := g3
  unfold F_87
  cases b with
  | true =>
    simp only [if_true]
    rw [if_pos a4, if_pos a5, g4, g5, f, ob_some]
    cases hf : fnd l w E (k + 1) with
    | none =>
      dsimp only
      rw [if_pos (by decide)]
    | some j =>
      have lt : j < E.length := (List.findIdx?_eq_some_iff_getElem.mp (show E.findIdx? (fun e => swd l w e.1 (k + 1)) = some j from hf)).1
      have := hA.2.1
      dsimp only
      rw [if_neg (fun z => by have := (nI_lti (b := 0) (by omega) (by decide)).mp z; omega)]
      rfl
  | false =>
    simp only [Bool.false_eq_true, if_false]
    first
      | rw [if_neg (show ¬ (1 : Int32) = 0 by decide), if_pos a3, g3]; rfl
      | rw [if_pos a3, g3]; rfl
theorem hd_ok (ht : t = 4 ∨ t = 20) (hN : 20000 < N) (hP : Pw l w) (q : CS σ t n M) (hw : Wd σ l) (hS : SP σ t w E X fs tge nc hs) {tg : Option Tr} {C : List It} (hC : C.length = nc) (htg : match tg with
    | none => tge < 0
    | some _ => 0 ≤ tge) {h op k : Nat} (hh : h < n) (ho : opw op (kK w k)) (hH : Hn w M h op k) : match hdk l w E tg C op k with
    | some e => ∃ σ', Sft N t σ h 1 e.1 σ' ∧ gI σ' 46 4 = nI e.2 ∧ F6 σ σ'
    | none => ∃ σ', Sgo N t σ h σ' 1 ∧ gI σ' 46 5 = nI h ∧ (op = 29 → gI σ' 46 9 = -1) ∧ (op = 31 → gI σ' 46 10 = -1 ∧ gI σ' 46 11 = 0) ∧ F6 σ σ' ∧ gI σ' 46 4 = gI σ 46 4 := by
  obtain ⟨⟨⟨e0, e1, e31⟩, e29⟩, e5⟩ := hH
  obtain ⟨hA, hLN, ⟨b1, b2, b3, b4, b5⟩, ⟨c1, c2, c3⟩, -⟩ := hS
  have op5 : 27 ≤ op ∧ op ≤ 31 := by unfold opw at ho; omega
  have a2 : aB (nI h) (gN σ (t + 2)) := q.a (c := 0) (by decide) hh
  have a3 : aB (nI h) (gN σ (t + 3)) := q.a (c := 1) (by decide) hh
  have g2 : gE σ (t + 2) (nI h).toNatClampNeg = nI op := (q.g (c := 0) (by decide) hh).trans e0
  have g3 : gE σ (t + 3) (nI h).toNatClampNeg = nI (kP w k) := (q.g (c := 1) (by decide) hh).trans e1
  have l53 := fun k' => L53h (N := N) (k := k') q hh (by omega) (by omega) e0
  -- what a try of F_84 means
  have good : ∀ σ', F_84 N t (nI h) σ = some (0, σ') → Sgo N t σ h σ' 1 := fun σ' e k' => by rw [l53, e, ob_some]; rfl
  have bad : ∀ σ' f, f ≠ 0 → f < 20 → F_84 N t (nI h) σ = some (nI f, σ') → Sft N t σ h 1 f σ' := fun σ' f hf hf2 e k' => by
    rw [l53, e, ob_some]
    dsimp only
    rw [if_neg (show ¬ nI f = 0 from nik (m := 0) (by omega) (by decide) hf)]
  have x5 : ∀ (s : st_S) (v : Int32), gI (st_i s 46 5 v) 46 5 = v := fun s v => by rw [gI_i, if_pos ⟨rfl, rfl⟩]
  have x4 : ∀ (s : st_S) (v : Int32), gI (st_i s 46 4 v) 46 4 = v := fun s v => by rw [gI_i, if_pos ⟨rfl, rfl⟩]
  unfold hdk
  by_cases o1 : op = 27 ∨ op = 28
  · rw [if_pos o1]
    obtain ⟨e2, e3⟩ := e29 (by omega)
    have f := F87' (N := N) ht hN hP q hw hA hh e1 e2 e3 (decide (cnt E 1 + cnt E 2 < 60))
    have fl : (if gI σ t 8 < 60 then 0 else 1 : Int32) = if decide (cnt E 1 + cnt E 2 < 60) = true then 0 else 1 := by
      rw [b2]
      have k60 : nI (cnt E 1 + cnt E 2) < 60 ↔ cnt E 1 + cnt E 2 < 60 := nI_lti (b := 60) (by omega) (by decide)
      by_cases c : cnt E 1 + cnt E 2 < 60
      · rw [if_pos (k60.mpr c), if_pos (by simpa using c)]
      · rw [if_neg (fun z => c (k60.mp z)), if_neg (by simpa using c)]
    have f84 : F_84 N t (nI h) σ = F_87 N t (nI h) (if decide (cnt E 1 + cnt E 2 < 60) = true then 0 else 1) σ := by
      unfold F_84
      rw [if_pos a2]
      simp only [g2]
      rw [if_neg (show ¬ nI op = 26 from nik (m := 26) (by omega) (by decide) (by omega)), fl]
      rcases o1 with o | o
      · rw [if_pos (show nI op = 27 by rw [o]; rfl)]
        cases F_87 N t (nI h) (if decide (cnt E 1 + cnt E 2 < 60) = true then 0 else 1) σ <;> rfl
      · rw [if_neg (show ¬ nI op = 27 from nik (m := 27) (by omega) (by decide) (by omega)), if_pos (show nI op = 28 by rw [o]; rfl)]
        cases F_87 N t (nI h) (if decide (cnt E 1 + cnt E 2 < 60) = true then 0 else 1) σ <;> rfl
    rw [f] at f84
    by_cases c : 60 ≤ cnt E 1 + cnt E 2
    · rw [if_pos c]
      rw [if_neg (by simpa using c)] at f84
      exact ⟨_, bad _ 5 (by decide) (by decide) f84, x4 _ _, (F6.i _ _ (by omega)).tr (F6.i _ _ (by omega))⟩
    · rw [if_neg c]
      rw [if_pos (by simpa using c)] at f84
      cases hf : fnd l w E (k + 1) with
      | none =>
        rw [hf] at f84
        exact ⟨_, good _ f84, x5 _ _, fun z => by omega, fun z => by omega, F6.i _ _ (by omega), by rw [gI_i, if_neg (by simp)]⟩
      | some j =>
        rw [hf] at f84
        exact ⟨_, bad _ 2 (by decide) (by decide) f84, x4 _ _, (F6.i _ _ (by omega)).tr (F6.i _ _ (by omega))⟩
  rw [if_neg o1]
  by_cases o2 : op = 29
  · rw [if_pos o2]
    obtain ⟨e2, e3⟩ := e29 (by omega)
    have i9 := F6.i σ (k := 9) (-1) (by omega)
    have f := F87' (N := N) (σ := st_i σ 46 9 (-1)) ht hN hP (i9.cs ht q) (i9.wd hw) (show NA (st_i σ 46 9 (-1)) w E X from ⟨(gI_i _ _ _ _ _ _).trans ((if_neg (by simp)).trans hA.1), hA.2⟩) hh e1 e2 e3 (decide (cnt E 3 < 12))
    have fl : (if gI σ t 7 < 12 then 0 else 1 : Int32) = if decide (cnt E 3 < 12) = true then 0 else 1 := by
      rw [b1]
      have k12 : nI (cnt E 3) < 12 ↔ cnt E 3 < 12 := nI_lti (b := 12) (by omega) (by decide)
      by_cases c : cnt E 3 < 12
      · rw [if_pos (k12.mpr c), if_pos (by simpa using c)]
      · rw [if_neg (fun z => c (k12.mp z)), if_neg (by simpa using c)]
    have f84 : F_84 N t (nI h) σ = F_87 N t (nI h) (if decide (cnt E 3 < 12) = true then 0 else 1) (st_i σ 46 9 (-1)) := by
      unfold F_84
      rw [if_pos a2]
      simp only [g2]
      rw [if_neg (show ¬ nI op = 26 from nik (m := 26) (by omega) (by decide) (by omega)), if_neg (show ¬ nI op = 27 from nik (m := 27) (by omega) (by decide) (by omega)), if_neg (show ¬ nI op = 28 from nik (m := 28) (by omega) (by decide) (by omega)), if_pos (show nI op = 29 by rw [o2]; rfl), fl]
      cases F_87 N t (nI h) (if decide (cnt E 3 < 12) = true then 0 else 1) (st_i σ 46 9 (-1)) <;> rfl
    rw [f] at f84
    have x9 : gI (st_i (st_i σ 46 9 (-1)) 46 5 (nI h)) 46 9 = -1 := by rw [gI_i, if_neg (by simp), gI_i, if_pos ⟨rfl, rfl⟩]
    by_cases c : 12 ≤ cnt E 3
    · rw [if_pos c]
      rw [if_neg (by simpa using c)] at f84
      exact ⟨_, bad _ 5 (by decide) (by decide) f84, x4 _ _, i9.tr ((F6.i _ _ (by omega)).tr (F6.i _ _ (by omega)))⟩
    · rw [if_neg c]
      rw [if_pos (by simpa using c)] at f84
      cases hf : fnd l w E (k + 1) with
      | none =>
        rw [hf] at f84
        exact ⟨_, good _ f84, x5 _ _, fun _ => x9, fun z => by omega, i9.tr (F6.i _ _ (by omega)), by rw [gI_i, if_neg (by simp), gI_i, if_neg (by simp)]⟩
      | some j =>
        rw [hf] at f84
        exact ⟨_, bad _ 2 (by decide) (by decide) f84, x4 _ _, i9.tr ((F6.i _ _ (by omega)).tr (F6.i _ _ (by omega)))⟩
  rw [if_neg o2]
  by_cases o3 : op = 30
  · rw [if_pos o3]
    have f84 : F_84 N t (nI h) σ = if gI σ t 11 < 0 then some (0, st_i σ 46 5 (nI h)) else some (4, st_i (st_i σ 46 5 (nI h)) 46 4 (nI (kP w k))) := by
      unfold F_84
      rw [if_pos a2]
      simp only [g2]
      rw [if_neg (show ¬ nI op = 26 from nik (m := 26) (by omega) (by decide) (by omega)), if_neg (show ¬ nI op = 27 from nik (m := 27) (by omega) (by decide) (by omega)), if_neg (show ¬ nI op = 28 from nik (m := 28) (by omega) (by decide) (by omega)), if_neg (show ¬ nI op = 29 from nik (m := 29) (by omega) (by decide) (by omega)), if_pos (show nI op = 30 by rw [o3]; rfl), if_pos a3, g3]
      rfl
    rw [b5] at f84
    cases tg with
    | none =>
      dsimp only at htg ⊢
      rw [if_pos htg] at f84
      exact ⟨_, good _ f84, x5 _ _, fun z => by omega, fun z => by omega, F6.i _ _ (by omega), by rw [gI_i, if_neg (by simp)]⟩
    | some T =>
      dsimp only at htg ⊢
      rw [if_neg (fun z => by
        have z1 := Int32.lt_iff_toInt_lt.mp z
        have z2 := Int32.le_iff_toInt_le.mp htg
        omega)] at f84
      exact ⟨_, bad _ 4 (by decide) (by decide) f84, x4 _ _, (F6.i _ _ (by omega)).tr (F6.i _ _ (by omega))⟩
  rw [if_neg o3]
  have o4 : op = 31 := by omega
  have f84 : F_84 N t (nI h) σ = if gI σ t 10 < 60 then some (0, st_i (st_i (st_i σ 46 5 (nI h)) 46 10 (-1)) 46 11 0) else some (5, st_i (st_i (st_i (st_i σ 46 5 (nI h)) 46 10 (-1)) 46 11 0) 46 4 (nI (kP w k))) := by
    unfold F_84
    rw [if_pos a2]
    simp only [g2]
    rw [if_neg (show ¬ nI op = 26 from nik (m := 26) (by omega) (by decide) (by omega)), if_neg (show ¬ nI op = 27 from nik (m := 27) (by omega) (by decide) (by omega)), if_neg (show ¬ nI op = 28 from nik (m := 28) (by omega) (by decide) (by omega)), if_neg (show ¬ nI op = 29 from nik (m := 29) (by omega) (by decide) (by omega)), if_neg (show ¬ nI op = 30 from nik (m := 30) (by omega) (by decide) (by omega)), if_pos (show nI op = 31 by rw [o4]; rfl), if_pos a3, g3]
    rfl
  have fr := ((F6.i σ (k := 5) (nI h) (by omega)).tr (F6.i _ (k := 10) (-1) (by omega))).tr (F6.i _ (k := 11) 0 (by omega))
  rw [b4, ← hC] at f84
  by_cases c : 60 ≤ C.length
  · rw [if_pos c]
    rw [if_neg (fun z => by have := (nI_lti (b := 60) (by omega) (by decide)).mp z; omega)] at f84
    exact ⟨_, bad _ 5 (by decide) (by decide) f84, x4 _ _, fr.tr (F6.i _ _ (by omega))⟩
  · rw [if_neg c]
    rw [if_pos (show nI C.length < 60 from (nI_lti (b := 60) (by omega) (by decide)).mpr (by omega))] at f84
    refine ⟨_, good _ f84, ?_, fun z => by omega, fun _ => ⟨?_, ?_⟩, fr, by rw [gI_i, if_neg (by simp), gI_i, if_neg (by simp), gI_i, if_neg (by simp)]⟩
    · rw [gI_i, if_neg (by simp), gI_i, if_neg (by simp), x5]
    · rw [gI_i, if_neg (by simp), gI_i, if_pos ⟨rfl, rfl⟩]
    · rw [gI_i, if_pos ⟨rfl, rfl⟩]
end HD
