/-! the reference's reader, a symbol at a time. Written by wip/prog/gen_wanted.py -/
def Wt (σ : st_S) (S : List Nat) (v : Nat) : Prop := Nu σ 77 78 (S.map nI).reverse ∧ gN σ 78 ≤ 40000 ∧ gI σ 66 7 = nI v
abbrev Fx (σ σ' : st_S) : Prop := Fr 0 [(77, 1), (66, 7), (66, 8)] [] [] [78] [] σ σ'
theorem nik {k m : Nat} (hk : k < 2 ^ 31) (hm : m < 2 ^ 31) (c : ¬ k = m) : ¬ nI k = nI m := fun q => c ((nI_eq hk hm).mp q)
theorem lt40 {n : Nat} (h : n < 2 ^ 31) : 40 < nI n ↔ 40 < n := nI_lti (a := 40) (by decide) h
section WT
variable {N : Nat} {σ0 σ : st_S} {S : List Nat} {v : Nat}
theorem Wt.gc (h : Wt σ S v) (f : Fx σ0 σ) : gC σ ≤ gC σ0 + 147500 := by
  have := f.gc (C := 40000) (fun a ha => by
    rcases List.mem_cons.mp ha with e | ha
    · rw [e]; exact h.2.1
    · cases ha)
  omega
theorem wadd (hq : gC σ0 + 200000 < vz_M0) (h : Wt σ S v) (f : Fx σ0 σ) (hl : S.length ≤ 15000) (a : Nat) : ∃ σ', N_133 N 77 (nI a) σ = some σ' ∧ Wt σ' (a :: S) v ∧ Fx σ0 σ' := by
  have hg := h.gc f
  obtain ⟨h1, h2, h3⟩ := h
  obtain ⟨σ', e1, k1, r1, m1, c1⟩ := N133' (N := N) (o := 77) (b := 78) (v := nI a) rfl (by decide) h1 (by omega) (by omega)
  have hm : (S.map nI).reverse.length = S.length := by rw [List.length_reverse, List.length_map]
  rw [hm] at m1
  refine ⟨σ', e1, ⟨?_, ?_, ?_⟩, Fr.t0 f (r1.mo (by decide) (by decide) (by decide) (by decide) (by decide))⟩
  · rw [List.map_cons, List.reverse_cons]
    exact k1
  · have m1 : gN σ' 78 ≤ max (gN σ 78) (2 * S.length) := m1
    omega
  · rw [r1.1 66 7 (by decide)]
    exact h3
theorem F154 (h : Wt σ S v) (f : Fx σ0 σ) (hv : v ≤ 40) : ∃ σ', F_154 N σ = some ((if v + 1 ≤ 40 then 1 else 0 : Int32), σ') ∧ Wt σ' S (v + 1) ∧ Fx σ0 σ' := by
  obtain ⟨h1, h2, h3⟩ := h
  refine ⟨st_i σ 66 7 (nI (v + 1)), ?_, ⟨h1.fr rfl rfl rfl, h2, st_i_s _ _ _ _⟩, Fr.t0 f (Fr.i _ _ (by decide))⟩
  unfold F_154
  rw [h3, nI_1]
  by_cases c : v + 1 ≤ 40
  · rw [if_pos c, if_neg (fun z => absurd ((lt40 (by omega)).mp z) (by omega))]
  · rw [if_neg c, if_pos ((lt40 (by omega)).mpr (by omega))]
/-- what a symbol did -/
def Out (x : Option (List Nat × Nat × Bool)) (t : Int32) (σ' : st_S) : Prop := match x with
  | none => t = -1
  | some (S', v', true) => t = 1 ∧ Wt σ' S' v'
  | some (S', v', false) => t = 0 ∧ Wt σ' S' v'
theorem F152_0 {x y : Int32} : F_152 N 0 x y σ = some (0, σ) := rfl
theorem F151 (hq : gC σ0 + 200000 < vz_M0) (h : Wt σ S v) (f : Fx σ0 σ) (hl : S.length ≤ 14000) (a b c : Nat) : ∃ σ', F_151 N (nI a) (nI b) (nI c) σ = some σ' ∧ Wt σ' (a :: b :: c :: S) v ∧ Fx σ0 σ' := by
  obtain ⟨σ1, e1, w1, f1⟩ := wadd (N := N) hq h f (by omega) c
  obtain ⟨σ2, e2, w2, f2⟩ := wadd (N := N) hq w1 f1 (by show S.length + 1 ≤ _; omega) b
  obtain ⟨σ3, e3, w3, f3⟩ := wadd (N := N) hq w2 f2 (by show S.length + 1 + 1 ≤ _; omega) a
  exact ⟨σ3, by unfold F_151; rw [e1, ob_some, e2, ob_some, e3, ob_some], w3, f3⟩
theorem F152_1 (hq : gC σ0 + 200000 < vz_M0) (h : Wt σ S v) (f : Fx σ0 σ) (hl : S.length ≤ 14000) (a b : Nat) : ∃ σ', F_152 N 1 (nI a) (nI b) σ = some (1, σ') ∧ Wt σ' (b :: a :: S) v ∧ Fx σ0 σ' := by
  obtain ⟨σ1, e1, w1, f1⟩ := wadd (N := N) hq h f (by omega) a
  obtain ⟨σ2, e2, w2, f2⟩ := wadd (N := N) hq w1 f1 (by show S.length + 1 ≤ _; omega) b
  exact ⟨σ2, by unfold F_152; rw [if_neg (by decide), e1, ob_some, e2, ob_some], w2, f2⟩
end WT
theorem sy_61 {N k : Nat} {σ0 σ : st_S} {S : List Nat} {v : Nat} (hq : gC σ0 + 200000 < vz_M0) (hk : k < 40) (h : Wt σ S v) (f : Fx σ0 σ) (hl : S.length ≤ 10000) (hv : v ≤ 40) : ∃ σ' t, F_155 N 61 (nI k) σ = some (t, σ') ∧ Fx σ0 σ' ∧ Out (rst k 61 S v) t σ' := by
  obtain ⟨σ1, e1, w1, f1⟩ := wadd (N := N) hq h f (by show S.length ≤ _; omega) 62
  have e1 : N_133 N 77 62 σ = some σ1 := e1
  obtain ⟨σ2, e2, w2, f2⟩ := wadd (N := N) hq w1 f1 (by show S.length + 1 ≤ _; omega) 63
  have e2 : N_133 N 77 63 σ1 = some σ2 := e2
  refine ⟨σ2, 0, ?_, f2, rfl, w2⟩
  unfold F_155
  rw [if_pos (by decide), e1, ob_some, e2, ob_some]
theorem sy_63 {N k : Nat} {σ0 σ : st_S} {S : List Nat} {v : Nat} (hq : gC σ0 + 200000 < vz_M0) (hk : k < 40) (h : Wt σ S v) (f : Fx σ0 σ) (hl : S.length ≤ 10000) (hv : v ≤ 40) : ∃ σ' t, F_155 N 63 (nI k) σ = some (t, σ') ∧ Fx σ0 σ' ∧ Out (rst k 63 S v) t σ' := by
  obtain ⟨σ1, e1, w1, f1⟩ := wadd (N := N) hq h f (by show S.length ≤ _; omega) 64
  have e1 : N_133 N 77 64 σ = some σ1 := e1
  obtain ⟨σ2, e2, w2, f2⟩ := wadd (N := N) hq w1 f1 (by show S.length + 1 ≤ _; omega) 65
  have e2 : N_133 N 77 65 σ1 = some σ2 := e2
  refine ⟨σ2, 0, ?_, f2, rfl, w2⟩
  unfold F_155
  rw [if_neg (by decide), if_neg (by decide), if_pos (by decide), e1, ob_some, e2, ob_some]
theorem sy_65 {N k : Nat} {σ0 σ : st_S} {S : List Nat} {v : Nat} (hq : gC σ0 + 200000 < vz_M0) (hk : k < 40) (h : Wt σ S v) (f : Fx σ0 σ) (hl : S.length ≤ 10000) (hv : v ≤ 40) : ∃ σ' t, F_155 N 65 (nI k) σ = some (t, σ') ∧ Fx σ0 σ' ∧ Out (rst k 65 S v) t σ' := by
  obtain ⟨σ1, e1, w1, f1⟩ := wadd (N := N) hq h f (by show S.length ≤ _; omega) 66
  have e1 : N_133 N 77 66 σ = some σ1 := e1
  obtain ⟨σ2, e2, w2, f2⟩ := wadd (N := N) hq w1 f1 (by show S.length + 1 ≤ _; omega) 67
  have e2 : N_133 N 77 67 σ1 = some σ2 := e2
  refine ⟨σ2, 0, ?_, f2, rfl, w2⟩
  unfold F_155
  rw [if_neg (by decide), if_neg (by decide), if_neg (by decide), if_neg (by decide), if_pos (by decide), e1, ob_some, e2, ob_some]
theorem sy_69 {N k : Nat} {σ0 σ : st_S} {S : List Nat} {v : Nat} (hq : gC σ0 + 200000 < vz_M0) (hk : k < 40) (h : Wt σ S v) (f : Fx σ0 σ) (hl : S.length ≤ 10000) (hv : v ≤ 40) : ∃ σ' t, F_155 N 69 (nI k) σ = some (t, σ') ∧ Fx σ0 σ' ∧ Out (rst k 69 S v) t σ' := by
  obtain ⟨σ1, e1, w1, f1⟩ := wadd (N := N) hq h f (by show S.length ≤ _; omega) 70
  have e1 : N_133 N 77 70 σ = some σ1 := e1
  obtain ⟨σ2, e2, w2, f2⟩ := wadd (N := N) hq w1 f1 (by show S.length + 1 ≤ _; omega) 71
  have e2 : N_133 N 77 71 σ1 = some σ2 := e2
  refine ⟨σ2, 0, ?_, f2, rfl, w2⟩
  unfold F_155
  rw [if_neg (by decide), if_neg (by decide), if_neg (by decide), if_neg (by decide), if_neg (by decide), if_neg (by decide), if_neg (by decide), if_neg (by decide), if_pos (by decide), e1, ob_some, e2, ob_some]
theorem sy_71 {N k : Nat} {σ0 σ : st_S} {S : List Nat} {v : Nat} (hq : gC σ0 + 200000 < vz_M0) (hk : k < 40) (h : Wt σ S v) (f : Fx σ0 σ) (hl : S.length ≤ 10000) (hv : v ≤ 40) : ∃ σ' t, F_155 N 71 (nI k) σ = some (t, σ') ∧ Fx σ0 σ' ∧ Out (rst k 71 S v) t σ' := by
  obtain ⟨σ1, e1, w1, f1⟩ := wadd (N := N) hq h f (by show S.length ≤ _; omega) 72
  have e1 : N_133 N 77 72 σ = some σ1 := e1
  obtain ⟨σ2, e2, w2, f2⟩ := wadd (N := N) hq w1 f1 (by show S.length + 1 ≤ _; omega) 73
  have e2 : N_133 N 77 73 σ1 = some σ2 := e2
  refine ⟨σ2, 0, ?_, f2, rfl, w2⟩
  unfold F_155
  rw [if_neg (by decide), if_neg (by decide), if_neg (by decide), if_neg (by decide), if_neg (by decide), if_neg (by decide), if_neg (by decide), if_neg (by decide), if_neg (by decide), if_neg (by decide), if_pos (by decide), e1, ob_some, e2, ob_some]
theorem sy_64 {N k : Nat} {σ0 σ : st_S} {S : List Nat} {v : Nat} (hq : gC σ0 + 200000 < vz_M0) (hk : k < 40) (h : Wt σ S v) (f : Fx σ0 σ) (hl : S.length ≤ 10000) (hv : v ≤ 40) : ∃ σ' t, F_155 N 64 (nI k) σ = some (t, σ') ∧ Fx σ0 σ' ∧ Out (rst k 64 S v) t σ' := by
  have er : rst k 64 S v = if k = 30 then some (65 :: 64 :: S, v, true) else some (S, v, false) := rfl
  rw [er]
  by_cases c : k = 30
  · have ei : (if nI k = 30 then 1 else 0 : Int32) = 1 := by
      subst c; decide
    obtain ⟨σ1, e1, w1, f1⟩ := F152_1 (N := N) hq h f (by omega) 64 65
    have e1 : F_152 N 1 64 65 σ = some (1, σ1) := e1
    refine ⟨σ1, 1, ?_, f1, ?_⟩
    · unfold F_155
      rw [if_neg (by decide), if_neg (by decide), if_neg (by decide), if_pos (by decide), ei, e1, ob_some]
    · rw [if_pos c]; exact ⟨rfl, w1⟩
  · have ei : (if nI k = 30 then 1 else 0 : Int32) = 0 := by
      rw [if_neg (show ¬ nI k = 30 from nik (m := 30) (by omega) (by decide) (by omega))]
    refine ⟨σ, 0, ?_, f, ?_⟩
    · unfold F_155
      rw [if_neg (by decide), if_neg (by decide), if_neg (by decide), if_pos (by decide), ei, F152_0, ob_some]
    · rw [if_neg c]; exact ⟨rfl, h⟩
theorem sy_66 {N k : Nat} {σ0 σ : st_S} {S : List Nat} {v : Nat} (hq : gC σ0 + 200000 < vz_M0) (hk : k < 40) (h : Wt σ S v) (f : Fx σ0 σ) (hl : S.length ≤ 10000) (hv : v ≤ 40) : ∃ σ' t, F_155 N 66 (nI k) σ = some (t, σ') ∧ Fx σ0 σ' ∧ Out (rst k 66 S v) t σ' := by
  have er : rst k 66 S v = if k = 29 then some (67 :: 66 :: S, v, true) else some (S, v, false) := rfl
  rw [er]
  by_cases c : k = 29
  · have ei : (if nI k = 29 then 1 else 0 : Int32) = 1 := by
      subst c; decide
    obtain ⟨σ1, e1, w1, f1⟩ := F152_1 (N := N) hq h f (by omega) 66 67
    have e1 : F_152 N 1 66 67 σ = some (1, σ1) := e1
    refine ⟨σ1, 1, ?_, f1, ?_⟩
    · unfold F_155
      rw [if_neg (by decide), if_neg (by decide), if_neg (by decide), if_neg (by decide), if_neg (by decide), if_pos (by decide), ei, e1, ob_some]
    · rw [if_pos c]; exact ⟨rfl, w1⟩
  · have ei : (if nI k = 29 then 1 else 0 : Int32) = 0 := by
      rw [if_neg (show ¬ nI k = 29 from nik (m := 29) (by omega) (by decide) (by omega))]
    refine ⟨σ, 0, ?_, f, ?_⟩
    · unfold F_155
      rw [if_neg (by decide), if_neg (by decide), if_neg (by decide), if_neg (by decide), if_neg (by decide), if_pos (by decide), ei, F152_0, ob_some]
    · rw [if_neg c]; exact ⟨rfl, h⟩
theorem sy_70 {N k : Nat} {σ0 σ : st_S} {S : List Nat} {v : Nat} (hq : gC σ0 + 200000 < vz_M0) (hk : k < 40) (h : Wt σ S v) (f : Fx σ0 σ) (hl : S.length ≤ 10000) (hv : v ≤ 40) : ∃ σ' t, F_155 N 70 (nI k) σ = some (t, σ') ∧ Fx σ0 σ' ∧ Out (rst k 70 S v) t σ' := by
  have er : rst k 70 S v = if k = 24 ∨ k = 25 then some (71 :: 70 :: S, v, true) else some (S, v, false) := rfl
  rw [er]
  by_cases c : k = 24 ∨ k = 25
  · have ei : (if nI k = 24 then 1 else (if nI k = 25 then 1 else 0) : Int32) = 1 := by
      rcases c with c | c <;> subst c <;> decide
    obtain ⟨σ1, e1, w1, f1⟩ := F152_1 (N := N) hq h f (by omega) 70 71
    have e1 : F_152 N 1 70 71 σ = some (1, σ1) := e1
    refine ⟨σ1, 1, ?_, f1, ?_⟩
    · unfold F_155
      rw [if_neg (by decide), if_neg (by decide), if_neg (by decide), if_neg (by decide), if_neg (by decide), if_neg (by decide), if_neg (by decide), if_neg (by decide), if_neg (by decide), if_pos (by decide), ei, e1, ob_some]
    · rw [if_pos c]; exact ⟨rfl, w1⟩
  · have ei : (if nI k = 24 then 1 else (if nI k = 25 then 1 else 0) : Int32) = 0 := by
      rw [if_neg (show ¬ nI k = 24 from nik (m := 24) (by omega) (by decide) (by omega)), if_neg (show ¬ nI k = 25 from nik (m := 25) (by omega) (by decide) (by omega))]
    refine ⟨σ, 0, ?_, f, ?_⟩
    · unfold F_155
      rw [if_neg (by decide), if_neg (by decide), if_neg (by decide), if_neg (by decide), if_neg (by decide), if_neg (by decide), if_neg (by decide), if_neg (by decide), if_neg (by decide), if_pos (by decide), ei, F152_0, ob_some]
    · rw [if_neg c]; exact ⟨rfl, h⟩
theorem sy_72 {N k : Nat} {σ0 σ : st_S} {S : List Nat} {v : Nat} (hq : gC σ0 + 200000 < vz_M0) (hk : k < 40) (h : Wt σ S v) (f : Fx σ0 σ) (hl : S.length ≤ 10000) (hv : v ≤ 40) : ∃ σ' t, F_155 N 72 (nI k) σ = some (t, σ') ∧ Fx σ0 σ' ∧ Out (rst k 72 S v) t σ' := by
  have er : rst k 72 S v = if k = 26 ∨ k = 27 ∨ k = 28 then some (73 :: 72 :: S, v, true) else some (S, v, false) := rfl
  rw [er]
  by_cases c : k = 26 ∨ k = 27 ∨ k = 28
  · have ei : (if nI k = 26 then 1 else (if nI k = 27 then 1 else (if nI k = 28 then 1 else 0)) : Int32) = 1 := by
      rcases c with c | c | c <;> subst c <;> decide
    obtain ⟨σ1, e1, w1, f1⟩ := F152_1 (N := N) hq h f (by omega) 72 73
    have e1 : F_152 N 1 72 73 σ = some (1, σ1) := e1
    refine ⟨σ1, 1, ?_, f1, ?_⟩
    · unfold F_155
      rw [if_neg (by decide), if_neg (by decide), if_neg (by decide), if_neg (by decide), if_neg (by decide), if_neg (by decide), if_neg (by decide), if_neg (by decide), if_neg (by decide), if_neg (by decide), if_neg (by decide), if_pos (by decide), ei, e1, ob_some]
    · rw [if_pos c]; exact ⟨rfl, w1⟩
  · have ei : (if nI k = 26 then 1 else (if nI k = 27 then 1 else (if nI k = 28 then 1 else 0)) : Int32) = 0 := by
      rw [if_neg (show ¬ nI k = 26 from nik (m := 26) (by omega) (by decide) (by omega)), if_neg (show ¬ nI k = 27 from nik (m := 27) (by omega) (by decide) (by omega)), if_neg (show ¬ nI k = 28 from nik (m := 28) (by omega) (by decide) (by omega))]
    refine ⟨σ, 0, ?_, f, ?_⟩
    · unfold F_155
      rw [if_neg (by decide), if_neg (by decide), if_neg (by decide), if_neg (by decide), if_neg (by decide), if_neg (by decide), if_neg (by decide), if_neg (by decide), if_neg (by decide), if_neg (by decide), if_neg (by decide), if_pos (by decide), ei, F152_0, ob_some]
    · rw [if_neg c]; exact ⟨rfl, h⟩
theorem sy_74 {N k : Nat} {σ0 σ : st_S} {S : List Nat} {v : Nat} (hq : gC σ0 + 200000 < vz_M0) (hk : k < 40) (h : Wt σ S v) (f : Fx σ0 σ) (hl : S.length ≤ 10000) (hv : v ≤ 40) : ∃ σ' t, F_155 N 74 (nI k) σ = some (t, σ') ∧ Fx σ0 σ' ∧ Out (rst k 74 S v) t σ' := by
  have er : rst k 74 S v = if k = 35 then some (61 :: 74 :: S, v, true) else some (S, v, false) := rfl
  rw [er]
  by_cases c : k = 35
  · have ei : (if nI k = 35 then 1 else 0 : Int32) = 1 := by
      subst c; decide
    obtain ⟨σ1, e1, w1, f1⟩ := F152_1 (N := N) hq h f (by omega) 74 61
    have e1 : F_152 N 1 74 61 σ = some (1, σ1) := e1
    refine ⟨σ1, 1, ?_, f1, ?_⟩
    · unfold F_155
      rw [if_neg (by decide), if_neg (by decide), if_neg (by decide), if_neg (by decide), if_neg (by decide), if_neg (by decide), if_neg (by decide), if_neg (by decide), if_neg (by decide), if_neg (by decide), if_neg (by decide), if_neg (by decide), if_pos (by decide), ei, e1, ob_some]
    · rw [if_pos c]; exact ⟨rfl, w1⟩
  · have ei : (if nI k = 35 then 1 else 0 : Int32) = 0 := by
      rw [if_neg (show ¬ nI k = 35 from nik (m := 35) (by omega) (by decide) (by omega))]
    refine ⟨σ, 0, ?_, f, ?_⟩
    · unfold F_155
      rw [if_neg (by decide), if_neg (by decide), if_neg (by decide), if_neg (by decide), if_neg (by decide), if_neg (by decide), if_neg (by decide), if_neg (by decide), if_neg (by decide), if_neg (by decide), if_neg (by decide), if_neg (by decide), if_pos (by decide), ei, F152_0, ob_some]
    · rw [if_neg c]; exact ⟨rfl, h⟩
theorem sy_57 {N k : Nat} {σ0 σ : st_S} {S : List Nat} {v : Nat} (hq : gC σ0 + 200000 < vz_M0) (hk : k < 40) (h : Wt σ S v) (f : Fx σ0 σ) (hl : S.length ≤ 10000) (hv : v ≤ 40) : ∃ σ' t, F_149 N 57 (nI k) σ = some (t, σ') ∧ Fx σ0 σ' ∧ Out (rst k 57 S v) t σ' := by
  have er : rst k 57 S v = if k = 24 then some (56 :: 57 :: S, v, true) else some (S, v, false) := rfl
  rw [er]
  by_cases c : k = 24
  · have ei : (if nI k = 24 then 1 else 0 : Int32) = 1 := by
      subst c; decide
    obtain ⟨σ1, e1, w1, f1⟩ := F152_1 (N := N) hq h f (by omega) 57 56
    have e1 : F_152 N 1 57 56 σ = some (1, σ1) := e1
    refine ⟨σ1, 1, ?_, f1, ?_⟩
    · unfold F_149
      rw [if_neg (by decide), if_neg (by decide), if_neg (by decide), if_neg (by decide), if_neg (by decide), if_pos (by decide), ei, e1, ob_some]
    · rw [if_pos c]; exact ⟨rfl, w1⟩
  · have ei : (if nI k = 24 then 1 else 0 : Int32) = 0 := by
      rw [if_neg (show ¬ nI k = 24 from nik (m := 24) (by omega) (by decide) (by omega))]
    refine ⟨σ, 0, ?_, f, ?_⟩
    · unfold F_149
      rw [if_neg (by decide), if_neg (by decide), if_neg (by decide), if_neg (by decide), if_neg (by decide), if_pos (by decide), ei, F152_0, ob_some]
    · rw [if_neg c]; exact ⟨rfl, h⟩
theorem sy_60 {N k : Nat} {σ0 σ : st_S} {S : List Nat} {v : Nat} (hq : gC σ0 + 200000 < vz_M0) (hk : k < 40) (h : Wt σ S v) (f : Fx σ0 σ) (hl : S.length ≤ 10000) (hv : v ≤ 40) : ∃ σ' t, F_149 N 60 (nI k) σ = some (t, σ') ∧ Fx σ0 σ' ∧ Out (rst k 60 S v) t σ' := by
  have er : rst k 60 S v = if k = 29 then some (59 :: 60 :: S, v, true) else some (S, v, false) := rfl
  rw [er]
  by_cases c : k = 29
  · have ei : (if nI k = 29 then 1 else 0 : Int32) = 1 := by
      subst c; decide
    obtain ⟨σ1, e1, w1, f1⟩ := F152_1 (N := N) hq h f (by omega) 60 59
    have e1 : F_152 N 1 60 59 σ = some (1, σ1) := e1
    refine ⟨σ1, 1, ?_, f1, ?_⟩
    · unfold F_149
      rw [if_neg (by decide), if_neg (by decide), if_neg (by decide), if_neg (by decide), if_neg (by decide), if_neg (by decide), if_neg (by decide), if_pos (by decide), ei, e1, ob_some]
    · rw [if_pos c]; exact ⟨rfl, w1⟩
  · have ei : (if nI k = 29 then 1 else 0 : Int32) = 0 := by
      rw [if_neg (show ¬ nI k = 29 from nik (m := 29) (by omega) (by decide) (by omega))]
    refine ⟨σ, 0, ?_, f, ?_⟩
    · unfold F_149
      rw [if_neg (by decide), if_neg (by decide), if_neg (by decide), if_neg (by decide), if_neg (by decide), if_neg (by decide), if_neg (by decide), if_pos (by decide), ei, F152_0, ob_some]
    · rw [if_neg c]; exact ⟨rfl, h⟩
theorem sy_62 {N k : Nat} {σ0 σ : st_S} {S : List Nat} {v : Nat} (hq : gC σ0 + 200000 < vz_M0) (hk : k < 40) (h : Wt σ S v) (f : Fx σ0 σ) (hl : S.length ≤ 10000) (hv : v ≤ 40) : ∃ σ' t, F_155 N 62 (nI k) σ = some (t, σ') ∧ Fx σ0 σ' ∧ Out (rst k 62 S v) t σ' := by
  have er : rst k 62 S v = if k = 32 then (if v + 1 ≤ 40 then some (61 :: 33 :: 61 :: 75 :: S, v + 1, true) else none) else some (S, v, false) := rfl
  rw [er]
  by_cases c : k = 32
  · subst c
    rw [if_pos rfl]
    obtain ⟨σ1, e1, w1, f1⟩ := wadd (N := N) hq h f (by show S.length ≤ _; omega) 75
    have e1 : N_133 N 77 75 σ = some σ1 := e1
    obtain ⟨σ2, e2, w2, f2⟩ := F151 (N := N) hq w1 f1 (by show S.length + 1 ≤ _; omega) 61 33 61
    have e2 : F_151 N 61 33 61 σ1 = some σ2 := e2
    obtain ⟨σz, ez, wz, fz⟩ := F154 (N := N) w2 f2 hv
    refine ⟨σz, (if v + 1 ≤ 40 then 1 else -1), ?_, fz, ?_⟩
    · unfold F_155 F_156
      rw [if_neg (by decide), if_pos (by decide), if_pos (by decide), e1, ob_some, e2, ob_some, ez, ob_some]
      by_cases q : v + 1 ≤ 40
      · rw [if_pos q, if_pos q]; rfl
      · rw [if_neg q, if_neg q]; rfl
    · by_cases q : v + 1 ≤ 40
      · rw [if_pos q, if_pos q]; exact ⟨rfl, wz⟩
      · rw [if_neg q, if_neg q]; rfl
  · refine ⟨σ, 0, ?_, f, ?_⟩
    · unfold F_155
      rw [if_neg (by decide), if_pos (by decide), if_neg (show ¬ nI k = 32 from nik (m := 32) (by omega) (by decide) c)]
    · rw [if_neg c]; exact ⟨rfl, h⟩
theorem sy_67 {N k : Nat} {σ0 σ : st_S} {S : List Nat} {v : Nat} (hq : gC σ0 + 200000 < vz_M0) (hk : k < 40) (h : Wt σ S v) (f : Fx σ0 σ) (hl : S.length ≤ 10000) (hv : v ≤ 40) : ∃ σ' t, F_155 N 67 (nI k) σ = some (t, σ') ∧ Fx σ0 σ' ∧ Out (rst k 67 S v) t σ' := by
  have er : rst k 67 S v = if k = 31 then (if v + 1 ≤ 40 then some (67 :: 75 :: S, v + 1, true) else none) else some (69 :: 68 :: S, v, false) := rfl
  rw [er]
  by_cases c : k = 31
  · subst c
    rw [if_pos rfl]
    obtain ⟨σ1, e1, w1, f1⟩ := wadd (N := N) hq h f (by show S.length ≤ _; omega) 75
    have e1 : N_133 N 77 75 σ = some σ1 := e1
    obtain ⟨σ2, e2, w2, f2⟩ := wadd (N := N) hq w1 f1 (by show S.length + 1 ≤ _; omega) 67
    have e2 : N_133 N 77 67 σ1 = some σ2 := e2
    obtain ⟨σz, ez, wz, fz⟩ := F154 (N := N) w2 f2 hv
    refine ⟨σz, (if v + 1 ≤ 40 then 1 else -1), ?_, fz, ?_⟩
    · unfold F_155
      rw [if_neg (by decide), if_neg (by decide), if_neg (by decide), if_neg (by decide), if_neg (by decide), if_neg (by decide), if_pos (by decide), if_pos (by decide), e1, ob_some, e2, ob_some, ez, ob_some]
      by_cases q : v + 1 ≤ 40
      · rw [if_pos q, if_pos q]; rfl
      · rw [if_neg q, if_neg q]; rfl
    · by_cases q : v + 1 ≤ 40
      · rw [if_pos q, if_pos q]; exact ⟨rfl, wz⟩
      · rw [if_neg q, if_neg q]; rfl
  · obtain ⟨σ1, e1, w1, f1⟩ := wadd (N := N) hq h f (by show S.length ≤ _; omega) 68
    have e1 : N_133 N 77 68 σ = some σ1 := e1
    obtain ⟨σ2, e2, w2, f2⟩ := wadd (N := N) hq w1 f1 (by show S.length + 1 ≤ _; omega) 69
    have e2 : N_133 N 77 69 σ1 = some σ2 := e2
    refine ⟨σ2, 0, ?_, f2, ?_⟩
    · unfold F_155
      rw [if_neg (by decide), if_neg (by decide), if_neg (by decide), if_neg (by decide), if_neg (by decide), if_neg (by decide), if_pos (by decide), if_neg (show ¬ nI k = 31 from nik (m := 31) (by omega) (by decide) c), e1, ob_some, e2, ob_some]
    · rw [if_neg c]; exact ⟨rfl, w2⟩
theorem F157 {N k : Nat} {σ : st_S} (hk : k < 40) : F_157 N (nI k) σ = some (bI (cmpk k), σ) := by
  have all : ∀ k, k < 40 → (if nI k = 23 then 1 else (if nI k = 18 then 1 else (if nI k = 21 then 1 else (if nI k = 19 then 1 else (if nI k = 22 then 1 else (if nI k = 20 then 1 else 0))))) : Int32) = bI (cmpk k) := by decide
  unfold F_157
  rw [all k hk]
theorem sy_68 {N k : Nat} {σ0 σ : st_S} {S : List Nat} {v : Nat} (hq : gC σ0 + 200000 < vz_M0) (hk : k < 40) (h : Wt σ S v) (f : Fx σ0 σ) (hl : S.length ≤ 10000) (hv : v ≤ 40) : ∃ σ' t, F_155 N 68 (nI k) σ = some (t, σ') ∧ Fx σ0 σ' ∧ Out (rst k 68 S v) t σ' := by
  have er : rst k 68 S v = if cmpk k = true then some (69 :: S, v, true) else some (S, v, false) := rfl
  rw [er]
  by_cases c : cmpk k = true
  · obtain ⟨σ1, e1, w1, f1⟩ := wadd (N := N) hq h f (by show S.length ≤ _; omega) 69
    have e1 : N_133 N 77 69 σ = some σ1 := e1
    refine ⟨σ1, 1, ?_, f1, ?_⟩
    · unfold F_155
      rw [if_neg (by decide), if_neg (by decide), if_neg (by decide), if_neg (by decide), if_neg (by decide), if_neg (by decide), if_neg (by decide), if_pos (by decide), F157 hk, ob_some]
      dsimp only
      rw [if_neg (by rw [c]; decide), e1, ob_some]
    · rw [if_pos c]; exact ⟨rfl, w1⟩
  · refine ⟨σ, 0, ?_, f, ?_⟩
    · unfold F_155
      rw [if_neg (by decide), if_neg (by decide), if_neg (by decide), if_neg (by decide), if_neg (by decide), if_neg (by decide), if_neg (by decide), if_pos (by decide), F157 hk, ob_some]
      dsimp only
      rw [if_pos (by rw [show cmpk k = false by simpa using c]; rfl)]
    · rw [if_neg c]; exact ⟨rfl, h⟩
theorem sy_76 {N k : Nat} {σ0 σ : st_S} {S : List Nat} {v : Nat} (hq : gC σ0 + 200000 < vz_M0) (hk : k < 40) (h : Wt σ S v) (f : Fx σ0 σ) (hl : S.length ≤ 10000) (hv : v ≤ 40) : ∃ σ' t, F_155 N 76 (nI k) σ = some (t, σ') ∧ Fx σ0 σ' ∧ Out (rst k 76 S v) t σ' := by
  have er : rst k 76 S v = if k = 36 ∧ v + 1 ≤ 40 then some (S, v + 1, true) else none := rfl
  rw [er]
  by_cases c : k = 36
  · subst c
    obtain ⟨σz, ez, wz, fz⟩ := F154 (N := N) h f hv
    refine ⟨σz, (if v + 1 ≤ 40 then 1 else -1), ?_, fz, ?_⟩
    · unfold F_155
      rw [if_neg (by decide), if_neg (by decide), if_neg (by decide), if_neg (by decide), if_neg (by decide), if_neg (by decide), if_neg (by decide), if_neg (by decide), if_neg (by decide), if_neg (by decide), if_neg (by decide), if_neg (by decide), if_neg (by decide), if_pos (by decide), if_pos (by decide), ez, ob_some]
      by_cases q : v + 1 ≤ 40
      · rw [if_pos q, if_pos q]; rfl
      · rw [if_neg q, if_neg q]; rfl
    · by_cases q : v + 1 ≤ 40
      · rw [if_pos ⟨rfl, q⟩, if_pos q]; exact ⟨rfl, wz⟩
      · rw [if_neg (fun z => q z.2), if_neg q]; rfl
  · refine ⟨σ, -1, ?_, f, ?_⟩
    · unfold F_155
      rw [if_neg (by decide), if_neg (by decide), if_neg (by decide), if_neg (by decide), if_neg (by decide), if_neg (by decide), if_neg (by decide), if_neg (by decide), if_neg (by decide), if_neg (by decide), if_neg (by decide), if_neg (by decide), if_neg (by decide), if_pos (by decide), if_neg (show ¬ nI k = 36 from nik (m := 36) (by omega) (by decide) c)]
    · rw [if_neg (fun z => c z.1)]; rfl
theorem sy_73 {N k : Nat} {σ0 σ : st_S} {S : List Nat} {v : Nat} (hq : gC σ0 + 200000 < vz_M0) (hk : k < 40) (h : Wt σ S v) (f : Fx σ0 σ) (hl : S.length ≤ 10000) (hv : v ≤ 40) : ∃ σ' t, F_155 N 73 (nI k) σ = some (t, σ') ∧ Fx σ0 σ' ∧ Out (rst k 73 S v) t σ' := by
  have er : rst k 73 S v = if k = 25 then (if v + 1 ≤ 40 then some (73 :: 75 :: S, v + 1, true) else none) else if k = 1 ∨ k = 2 ∨ k = 12 ∨ k = 13 then some (S, v, true) else if k = 36 then (if v + 1 ≤ 40 then some (61 :: 37 :: 75 :: S, v + 1, true) else none) else if k = 14 ∨ k = 15 then some (76 :: 61 :: 74 :: 37 :: 75 :: S, v, true) else none := rfl
  have ef : ∀ σ' t, F_158 N (nI k) σ = some (t, σ') → F_155 N 73 (nI k) σ = some (t, σ') := by
    intro σ' t q
    unfold F_155
    rw [if_neg (by decide), if_neg (by decide), if_neg (by decide), if_neg (by decide), if_neg (by decide), if_neg (by decide), if_neg (by decide), if_neg (by decide), if_neg (by decide), if_neg (by decide), if_neg (by decide), if_neg (by decide), if_neg (by decide), if_neg (by decide), q, ob_some]
  rw [er]
  by_cases c1 : k = 1 ∨ k = 2 ∨ k = 12 ∨ k = 13
  · refine ⟨σ, 1, ef _ _ ?_, f, ?_⟩
    · rcases c1 with c | c | c | c <;> subst c <;> rfl
    · rw [if_neg (by omega), if_pos c1]; exact ⟨rfl, h⟩
  by_cases c2 : k = 14 ∨ k = 15
  · obtain ⟨σ1, e1, w1, f1⟩ := wadd (N := N) hq h f (by show S.length ≤ _; omega) 75
    have e1 : N_133 N 77 75 σ = some σ1 := e1
    obtain ⟨σ2, e2, w2, f2⟩ := wadd (N := N) hq w1 f1 (by show S.length + 1 ≤ _; omega) 37
    have e2 : N_133 N 77 37 σ1 = some σ2 := e2
    obtain ⟨σ3, e3, w3, f3⟩ := wadd (N := N) hq w2 f2 (by show S.length + 1 + 1 ≤ _; omega) 74
    have e3 : N_133 N 77 74 σ2 = some σ3 := e3
    obtain ⟨σ4, e4, w4, f4⟩ := wadd (N := N) hq w3 f3 (by show S.length + 1 + 1 + 1 ≤ _; omega) 61
    have e4 : N_133 N 77 61 σ3 = some σ4 := e4
    obtain ⟨σ5, e5, w5, f5⟩ := wadd (N := N) hq w4 f4 (by show S.length + 1 + 1 + 1 + 1 ≤ _; omega) 76
    have e5 : N_133 N 77 76 σ4 = some σ5 := e5
    refine ⟨σ5, 1, ef _ _ ?_, f5, ?_⟩
    · rcases c2 with c | c <;> subst c
      · unfold F_158
        rw [if_neg (by decide), if_neg (by decide), if_neg (by decide), if_neg (by decide), if_pos (by decide), e1, ob_some, e2, ob_some, e3, ob_some, e4, ob_some, e5, ob_some]
      · unfold F_158
        rw [if_neg (by decide), if_neg (by decide), if_neg (by decide), if_neg (by decide), if_neg (by decide), if_pos (by decide), e1, ob_some, e2, ob_some, e3, ob_some, e4, ob_some, e5, ob_some]
    · rw [if_neg (by omega), if_neg c1, if_neg (by omega), if_pos c2]; exact ⟨rfl, w5⟩
  by_cases c3 : k = 25
  · subst c3
    obtain ⟨σ1, e1, w1, f1⟩ := wadd (N := N) hq h f (by show S.length ≤ _; omega) 75
    have e1 : N_133 N 77 75 σ = some σ1 := e1
    obtain ⟨σ2, e2, w2, f2⟩ := wadd (N := N) hq w1 f1 (by show S.length + 1 ≤ _; omega) 73
    have e2 : N_133 N 77 73 σ1 = some σ2 := e2
    obtain ⟨σz, ez, wz, fz⟩ := F154 (N := N) w2 f2 hv
    refine ⟨σz, (if v + 1 ≤ 40 then 1 else -1), ef _ _ ?_, fz, ?_⟩
    · unfold F_158
      rw [if_neg (by decide), if_neg (by decide), if_neg (by decide), if_neg (by decide), if_neg (by decide), if_neg (by decide), if_pos (by decide), e1, ob_some, e2, ob_some, ez, ob_some]
      by_cases q : v + 1 ≤ 40
      · rw [if_pos q, if_pos q]; rfl
      · rw [if_neg q, if_neg q]; rfl
    · rw [if_pos rfl]
      by_cases q : v + 1 ≤ 40
      · rw [if_pos q, if_pos q]; exact ⟨rfl, wz⟩
      · rw [if_neg q, if_neg q]; rfl
  by_cases c4 : k = 36
  · subst c4
    obtain ⟨σ1, e1, w1, f1⟩ := wadd (N := N) hq h f (by show S.length ≤ _; omega) 75
    have e1 : N_133 N 77 75 σ = some σ1 := e1
    obtain ⟨σ2, e2, w2, f2⟩ := wadd (N := N) hq w1 f1 (by show S.length + 1 ≤ _; omega) 37
    have e2 : N_133 N 77 37 σ1 = some σ2 := e2
    obtain ⟨σ3, e3, w3, f3⟩ := wadd (N := N) hq w2 f2 (by show S.length + 1 + 1 ≤ _; omega) 61
    have e3 : N_133 N 77 61 σ2 = some σ3 := e3
    obtain ⟨σz, ez, wz, fz⟩ := F154 (N := N) w3 f3 hv
    refine ⟨σz, (if v + 1 ≤ 40 then 1 else -1), ef _ _ ?_, fz, ?_⟩
    · unfold F_158
      rw [if_neg (by decide), if_neg (by decide), if_neg (by decide), if_neg (by decide), if_neg (by decide), if_neg (by decide), if_neg (by decide), if_pos (by decide), e1, ob_some, e2, ob_some, e3, ob_some, ez, ob_some]
      by_cases q : v + 1 ≤ 40
      · rw [if_pos q, if_pos q]; rfl
      · rw [if_neg q, if_neg q]; rfl
    · rw [if_neg (by decide), if_neg (by decide), if_pos rfl]
      by_cases q : v + 1 ≤ 40
      · rw [if_pos q, if_pos q]; exact ⟨rfl, wz⟩
      · rw [if_neg q, if_neg q]; rfl
  refine ⟨σ, -1, ef _ _ ?_, f, ?_⟩
  · unfold F_158
    rw [if_neg (show ¬ nI k = 1 from nik (m := 1) (by omega) (by decide) (by omega)), if_neg (show ¬ nI k = 2 from nik (m := 2) (by omega) (by decide) (by omega)), if_neg (show ¬ nI k = 12 from nik (m := 12) (by omega) (by decide) (by omega)), if_neg (show ¬ nI k = 13 from nik (m := 13) (by omega) (by decide) (by omega)), if_neg (show ¬ nI k = 14 from nik (m := 14) (by omega) (by decide) (by omega)), if_neg (show ¬ nI k = 15 from nik (m := 15) (by omega) (by decide) (by omega)), if_neg (show ¬ nI k = 25 from nik (m := 25) (by omega) (by decide) (by omega)), if_neg (show ¬ nI k = 36 from nik (m := 36) (by omega) (by decide) (by omega))]
  · rw [if_neg c3, if_neg c1, if_neg c4, if_neg c2]; rfl
theorem sy_51 {N k : Nat} {σ0 σ : st_S} {S : List Nat} {v : Nat} (hq : gC σ0 + 200000 < vz_M0) (hk : k < 40) (h : Wt σ S v) (f : Fx σ0 σ) (hl : S.length ≤ 10000) (hv : v ≤ 40) : ∃ σ' t, F_149 N 51 (nI k) σ = some (t, σ') ∧ Fx σ0 σ' ∧ Out (rst k 51 S v) t σ' := by
  obtain ⟨σ1, e1, w1, f1⟩ := F151 (N := N) hq h f (by omega) 1 23 61
  have e1 : F_151 N 1 23 61 σ = some σ1 := e1
  refine ⟨σ1, 0, ?_, f1, rfl, w1⟩
  unfold F_149
  rw [if_neg (by decide), if_pos (by decide), e1, ob_some]
theorem sy_56 {N k : Nat} {σ0 σ : st_S} {S : List Nat} {v : Nat} (hq : gC σ0 + 200000 < vz_M0) (hk : k < 40) (h : Wt σ S v) (f : Fx σ0 σ) (hl : S.length ≤ 10000) (hv : v ≤ 40) : ∃ σ' t, F_149 N 56 (nI k) σ = some (t, σ') ∧ Fx σ0 σ' ∧ Out (rst k 56 S v) t σ' := by
  obtain ⟨σ1, e1, w1, f1⟩ := F151 (N := N) hq h f (by omega) 63 33 58
  have e1 : F_151 N 63 33 58 σ = some σ1 := e1
  refine ⟨σ1, 0, ?_, f1, rfl, w1⟩
  unfold F_149
  rw [if_neg (by decide), if_neg (by decide), if_neg (by decide), if_neg (by decide), if_pos (by decide), e1, ob_some]
theorem sy_53 {N k : Nat} {σ0 σ : st_S} {S : List Nat} {v : Nat} (hq : gC σ0 + 200000 < vz_M0) (hk : k < 40) (h : Wt σ S v) (f : Fx σ0 σ) (hl : S.length ≤ 10000) (hv : v ≤ 40) : ∃ σ' t, F_149 N 53 (nI k) σ = some (t, σ') ∧ Fx σ0 σ' ∧ Out (rst k 53 S v) t σ' := by
  have er : rst k 53 S v = if k = 5 then some (S, v, true) else some (61 :: 16 :: 61 :: S, v, false) := rfl
  rw [er]
  by_cases c : k = 5
  · subst c
    refine ⟨σ, 1, ?_, f, ?_⟩
    · unfold F_149
      rw [if_neg (by decide), if_neg (by decide), if_pos (by decide), if_pos (by decide)]
    · rw [if_pos rfl]; exact ⟨rfl, h⟩
  · obtain ⟨σ1, e1, w1, f1⟩ := F151 (N := N) hq h f (by omega) 61 16 61
    have e1 : F_151 N 61 16 61 σ = some σ1 := e1
    refine ⟨σ1, 0, ?_, f1, ?_⟩
    · unfold F_149
      rw [if_neg (by decide), if_neg (by decide), if_pos (by decide), if_neg (show ¬ nI k = 5 from nik (m := 5) (by omega) (by decide) c), e1, ob_some]
    · rw [if_neg c]; exact ⟨rfl, w1⟩
theorem sy_54 {N k : Nat} {σ0 σ : st_S} {S : List Nat} {v : Nat} (hq : gC σ0 + 200000 < vz_M0) (hk : k < 40) (h : Wt σ S v) (f : Fx σ0 σ) (hl : S.length ≤ 10000) (hv : v ≤ 40) : ∃ σ' t, F_149 N 54 (nI k) σ = some (t, σ') ∧ Fx σ0 σ' ∧ Out (rst k 54 S v) t σ' := by
  have er : rst k 54 S v = if k = 9 then some (61 :: S, v, true) else some (S, v, false) := rfl
  rw [er]
  by_cases c : k = 9
  · obtain ⟨σ1, e1, w1, f1⟩ := wadd (N := N) hq h f (by show S.length ≤ _; omega) 61
    have e1 : N_133 N 77 61 σ = some σ1 := e1
    subst c
    refine ⟨σ1, 1, ?_, f1, ?_⟩
    · unfold F_149
      rw [if_neg (by decide), if_neg (by decide), if_neg (by decide), if_pos (by decide), if_pos (by decide), e1, ob_some]
    · rw [if_pos rfl]; exact ⟨rfl, w1⟩
  · refine ⟨σ, 0, ?_, f, ?_⟩
    · unfold F_149
      rw [if_neg (by decide), if_neg (by decide), if_neg (by decide), if_pos (by decide), if_neg (show ¬ nI k = 9 from nik (m := 9) (by omega) (by decide) c)]
    · rw [if_neg c]; exact ⟨rfl, h⟩
theorem sy_58 {N k : Nat} {σ0 σ : st_S} {S : List Nat} {v : Nat} (hq : gC σ0 + 200000 < vz_M0) (hk : k < 40) (h : Wt σ S v) (f : Fx σ0 σ) (hl : S.length ≤ 10000) (hv : v ≤ 40) : ∃ σ' t, F_149 N 58 (nI k) σ = some (t, σ') ∧ Fx σ0 σ' ∧ Out (rst k 58 S v) t σ' := by
  have er : rst k 58 S v = if k = 10 then some (S, v, true) else some (59 :: 60 :: S, v, false) := rfl
  rw [er]
  by_cases c : k = 10
  · subst c
    refine ⟨σ, 1, ?_, f, ?_⟩
    · unfold F_149
      rw [if_neg (by decide), if_neg (by decide), if_neg (by decide), if_neg (by decide), if_neg (by decide), if_neg (by decide), if_pos (by decide), if_pos (by decide)]
    · rw [if_pos rfl]; exact ⟨rfl, h⟩
  · obtain ⟨σ1, e1, w1, f1⟩ := wadd (N := N) hq h f (by show S.length ≤ _; omega) 60
    have e1 : N_133 N 77 60 σ = some σ1 := e1
    obtain ⟨σ2, e2, w2, f2⟩ := wadd (N := N) hq w1 f1 (by show S.length + 1 ≤ _; omega) 59
    have e2 : N_133 N 77 59 σ1 = some σ2 := e2
    refine ⟨σ2, 0, ?_, f2, ?_⟩
    · unfold F_149
      rw [if_neg (by decide), if_neg (by decide), if_neg (by decide), if_neg (by decide), if_neg (by decide), if_neg (by decide), if_pos (by decide), if_neg (show ¬ nI k = 10 from nik (m := 10) (by omega) (by decide) c), e1, ob_some, e2, ob_some]
    · rw [if_neg c]; exact ⟨rfl, w2⟩
theorem sy_59 {N k : Nat} {σ0 σ : st_S} {S : List Nat} {v : Nat} (hq : gC σ0 + 200000 < vz_M0) (hk : k < 40) (h : Wt σ S v) (f : Fx σ0 σ) (hl : S.length ≤ 10000) (hv : v ≤ 40) : ∃ σ' t, F_149 N 59 (nI k) σ = some (t, σ') ∧ Fx σ0 σ' ∧ Out (rst k 59 S v) t σ' := by
  have er : rst k 59 S v = if k = 36 ∧ v + 1 ≤ 40 then some (1 :: 38 :: 23 :: 61 :: 37 :: 75 :: S, v + 1, true) else none := rfl
  have ef : ∀ σ' t, F_153 N (nI k) σ = some (t, σ') → F_149 N 59 (nI k) σ = some (t, σ') := by
    intro σ' t q
    unfold F_149
    rw [if_neg (by decide), if_neg (by decide), if_neg (by decide), if_neg (by decide), if_neg (by decide), if_neg (by decide), if_neg (by decide), if_neg (by decide), q, ob_some]
  rw [er]
  by_cases c : k = 36
  · subst c
    obtain ⟨σz, ez, wz, fz⟩ := F154 (N := N) h f hv
    by_cases q : v + 1 ≤ 40
    · rw [if_pos q] at ez
      obtain ⟨σ1, e1, w1, f1⟩ := wadd (N := N) hq wz fz (by show S.length ≤ _; omega) 75
      have e1 : N_133 N 77 75 σz = some σ1 := e1
      obtain ⟨σ2, e2, w2, f2⟩ := wadd (N := N) hq w1 f1 (by show S.length + 1 ≤ _; omega) 37
      have e2 : N_133 N 77 37 σ1 = some σ2 := e2
      obtain ⟨σ3, e3, w3, f3⟩ := wadd (N := N) hq w2 f2 (by show S.length + 1 + 1 ≤ _; omega) 61
      have e3 : N_133 N 77 61 σ2 = some σ3 := e3
      obtain ⟨σ4, e4, w4, f4⟩ := F151 (N := N) hq w3 f3 (by show S.length + 1 + 1 + 1 ≤ _; omega) 1 38 23
      have e4 : F_151 N 1 38 23 σ3 = some σ4 := e4
      refine ⟨σ4, 1, ef _ _ ?_, f4, ?_⟩
      · unfold F_153
        rw [if_pos (by decide), ez, ob_some]
        dsimp only
        rw [if_neg (by decide), e1, ob_some, e2, ob_some, e3, ob_some, e4, ob_some]
      · rw [if_pos ⟨rfl, q⟩]; exact ⟨rfl, w4⟩
    · rw [if_neg q] at ez
      refine ⟨σz, -1, ef _ _ ?_, fz, ?_⟩
      · unfold F_153
        rw [if_pos (by decide), ez, ob_some]
        dsimp only
        rw [if_pos rfl]
      · rw [if_neg (fun z => q z.2)]; rfl
  · refine ⟨σ, -1, ef _ _ ?_, f, ?_⟩
    · unfold F_153
      rw [if_neg (show ¬ nI k = 36 from nik (m := 36) (by omega) (by decide) c)]
    · rw [if_neg (fun z => c z.1)]; rfl
theorem sy_50 {N k : Nat} {σ0 σ : st_S} {S : List Nat} {v : Nat} (hq : gC σ0 + 200000 < vz_M0) (hk : k < 40) (h : Wt σ S v) (f : Fx σ0 σ) (hl : S.length ≤ 10000) (hv : v ≤ 40) : ∃ σ' t, F_149 N 50 (nI k) σ = some (t, σ') ∧ Fx σ0 σ' ∧ Out (rst k 50 S v) t σ' := by
  have er : rst k 50 S v = if k = 0 then some (S, v, true) else if k = 3 ∨ k = 6 then some (51 :: 34 :: 50 :: S, v, true) else if k = 4 then some (1 :: 33 :: 53 :: 54 :: 34 :: 50 :: S, v, true) else if k = 11 then some (61 :: 34 :: 50 :: S, v, true) else if k = 7 ∨ k = 8 then some (61 :: 17 :: 56 :: 57 :: 34 :: 50 :: S, v, true) else none := rfl
  have ef : ∀ σ' t, F_150 N (nI k) σ = some (t, σ') → F_149 N 50 (nI k) σ = some (t, σ') := by
    intro σ' t q
    unfold F_149
    rw [if_pos (by decide), q, ob_some]
  rw [er]
  by_cases c0 : k = 0
  · subst c0
    exact ⟨σ, 1, ef _ _ rfl, f, by rw [if_pos rfl]; exact ⟨rfl, h⟩⟩
  obtain ⟨σ1, e1, w1, f1⟩ := wadd (N := N) hq h f (by show S.length ≤ _; omega) 50
  have e1 : N_133 N 77 50 σ = some σ1 := e1
  obtain ⟨σ2, e2, w2, f2⟩ := wadd (N := N) hq w1 f1 (by show S.length + 1 ≤ _; omega) 34
  have e2 : N_133 N 77 34 σ1 = some σ2 := e2
  have eb : F_150 N (nI k) σ = if nI k = 3 then (N_133 N 77 51 σ2).bind fun p_5 => some (1, p_5) else if nI k = 4 then (N_133 N 77 54 σ2).bind fun p_7 => (F_151 N 1 33 53 p_7).bind fun p_8 => some (1, p_8) else if nI k = 6 then (N_133 N 77 51 σ2).bind fun p_10 => some (1, p_10) else if nI k = 7 then (N_133 N 77 57 σ2).bind fun p_12 => (F_151 N 61 17 56 p_12).bind fun p_13 => some (1, p_13) else if nI k = 8 then (N_133 N 77 57 σ2).bind fun p_15 => (F_151 N 61 17 56 p_15).bind fun p_16 => some (1, p_16) else if nI k = 11 then (N_133 N 77 61 σ2).bind fun p_18 => some (1, p_18) else some (-1, σ2) := by
    unfold F_150
    rw [if_neg (show ¬ nI k = 0 from nik (m := 0) (by omega) (by decide) c0), e1, ob_some, e2, ob_some]
  rw [if_neg c0]
  by_cases c1 : k = 3 ∨ k = 6
  · rw [if_pos c1]
    obtain ⟨σ3, e3, w3, f3⟩ := wadd (N := N) hq w2 f2 (by show S.length + 1 + 1 ≤ _; omega) 51
    have e3 : N_133 N 77 51 σ2 = some σ3 := e3
    refine ⟨σ3, 1, ef _ _ ?_, f3, rfl, w3⟩
    rw [eb]
    rcases c1 with c | c <;> subst c
    · rw [if_pos (by decide), e3, ob_some]
    · rw [if_neg (by decide), if_neg (by decide), if_pos (by decide), e3, ob_some]
  rw [if_neg c1]
  by_cases c2 : k = 4
  · rw [if_pos c2]
    subst c2
    obtain ⟨σ3, e3, w3, f3⟩ := wadd (N := N) hq w2 f2 (by show S.length + 1 + 1 ≤ _; omega) 54
    have e3 : N_133 N 77 54 σ2 = some σ3 := e3
    obtain ⟨σ4, e4, w4, f4⟩ := F151 (N := N) hq w3 f3 (by show S.length + 1 + 1 + 1 ≤ _; omega) 1 33 53
    have e4 : F_151 N 1 33 53 σ3 = some σ4 := e4
    refine ⟨σ4, 1, ef _ _ ?_, f4, rfl, w4⟩
    rw [eb, if_neg (by decide), if_pos (by decide), e3, ob_some, e4, ob_some]
  rw [if_neg c2]
  by_cases c3 : k = 11
  · rw [if_pos c3]
    subst c3
    obtain ⟨σ3, e3, w3, f3⟩ := wadd (N := N) hq w2 f2 (by show S.length + 1 + 1 ≤ _; omega) 61
    have e3 : N_133 N 77 61 σ2 = some σ3 := e3
    refine ⟨σ3, 1, ef _ _ ?_, f3, rfl, w3⟩
    rw [eb, if_neg (by decide), if_neg (by decide), if_neg (by decide), if_neg (by decide), if_neg (by decide), if_pos (by decide), e3, ob_some]
  rw [if_neg c3]
  by_cases c4 : k = 7 ∨ k = 8
  · rw [if_pos c4]
    obtain ⟨σ3, e3, w3, f3⟩ := wadd (N := N) hq w2 f2 (by show S.length + 1 + 1 ≤ _; omega) 57
    have e3 : N_133 N 77 57 σ2 = some σ3 := e3
    obtain ⟨σ4, e4, w4, f4⟩ := F151 (N := N) hq w3 f3 (by show S.length + 1 + 1 + 1 ≤ _; omega) 61 17 56
    have e4 : F_151 N 61 17 56 σ3 = some σ4 := e4
    refine ⟨σ4, 1, ef _ _ ?_, f4, rfl, w4⟩
    rw [eb]
    rcases c4 with c | c <;> subst c
    · rw [if_neg (by decide), if_neg (by decide), if_neg (by decide), if_pos (by decide), e3, ob_some, e4, ob_some]
    · rw [if_neg (by decide), if_neg (by decide), if_neg (by decide), if_neg (by decide), if_pos (by decide), e3, ob_some, e4, ob_some]
  rw [if_neg c4]
  refine ⟨σ2, -1, ef _ _ ?_, f2, rfl⟩
  rw [eb, if_neg (show ¬ nI k = 3 from nik (m := 3) (by omega) (by decide) (by omega)), if_neg (show ¬ nI k = 4 from nik (m := 4) (by omega) (by decide) (by omega)), if_neg (show ¬ nI k = 6 from nik (m := 6) (by omega) (by decide) (by omega)), if_neg (show ¬ nI k = 7 from nik (m := 7) (by omega) (by decide) (by omega)), if_neg (show ¬ nI k = 8 from nik (m := 8) (by omega) (by decide) (by omega)), if_neg (show ¬ nI k = 11 from nik (m := 11) (by omega) (by decide) (by omega))]
