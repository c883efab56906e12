/-! the class's machine is run on a rule -/
section RU
variable {N t n : Nat} {l : List Int32} {w : List (Nat × Nat × Nat)} {E : List En} {X fs : Nat → Nat} {vs : Nat → Int32} {m : Nat} {cc : Bool}
theorem F70r (G : Gv N t n l w E X fs vs (2 * n + 2) cc) (hN : 200000 < N) (hmE : m ≤ E.length) {co : Bool} (hcc : cc = true → co = true) {T : Tr} {σ : st_S} {M : Nat → Nat → Int32} {a fe kd : Nat} (hW : Wf w T) (hl : lev T ≤ 6) (hNB : NBf l w E m T) (hck : chk l w E co T = .inr kd) (hk : kd ≠ 0) (hC : Cr l w E X M T a) (hfe : fe = a + tln T) (hfn : fe < n) (hP : PrS t n l w E X fs vs m 0 (2 * n + 2) σ M a fe 0 (2 * tln T)) (e0 : M fe 0 = nI 26) (e4 : M fe 4 = nI a) : match evl l w E (fvn l w E vs) T false with
    | .inl er => ∃ σ' M', F_70 N t (nI fe) σ = some (nI er.1, σ') ∧ gI σ' 42 6 = nI er.2 ∧ FM t σ σ' ∧ CS σ' t n M' ∧ Sta M M' ∧ gE σ' 43 = gE σ 43
    | .inr v => ∃ σ' M' q, F_70 N t (nI fe) σ = some (0, σ') ∧ Rn1 N t n l w E X fs vs m 0 (2 * n + 2) σ M 0 a fe a fe q σ' M' ∧ Va M' (fe - 1) v := by
  subst hfe
  have R := evT G m hmE T co σ M a 0 0 false kd hcc hW hNB hck hk hC (by omega) hP
  unfold EvO at R
  rw [st0_n (by omega), rt0_n (by omega)] at R
  obtain ⟨ht, hN3, hn24, hB, -⟩ := G
  obtain ⟨hMF, hMt, hvs, hDJ, hd, hs⟩ := hP
  have a6 : aB (nI (a + tln T)) (gN σ (t + 6)) := hMF.1.a (c := 4) (by decide) hfn
  have g6 : gE σ (t + 6) (nI (a + tln T)).toNatClampNeg = nI a := (hMF.1.g (c := 4) (by decide) hfn).trans e4
  have eB : (2 * (gI σ (t + 1) 8)) + 2 = nI (2 * n + 2) := by
    rw [hMF.1.1]
    have h1 : (2 : Int32) * nI n = nI (2 * n) := by
      exact (Int32.ofNat_mul 2 n).symm
    rw [h1]
    exact nI_add (2 * n) 2
  have eF : F_70 N t (nI (a + tln T)) σ = L_70 N t N (nI 0) (nI a) (nI (2 * n + 2)) (nI 0) σ := by
    unfold F_70
    rw [if_pos a6, g6, eB]
    rfl
  rw [eF]
  cases hv : evl l w E (fvn l w E vs) T false with
  | inl er =>
    rw [hv] at R
    obtain ⟨σ', M', q, ⟨x1, x2, x3, x4, x5, x6⟩, hq⟩ := R
    refine ⟨σ', M', ?_, x2, x3, x4, x5, x6⟩
    have := x1 (N - q)
    rw [show N - q + q = N by omega] at this
    exact this
  | inr v =>
    rw [hv] at R
    obtain ⟨σ', M', q, hR, hV, hq⟩ := R
    refine ⟨σ', M', q, ?_, hR, hV⟩
    have := hR.1 (N - q)
    rw [show N - q + q = N by omega] at this
    rw [this, show N - q = N - q - 1 + 1 by omega, L70e0 hR.2.1.1 hfn (((hR.st _).1 0 (by decide)).trans e0) (by omega) hB]
/-- names of constants alone -/
theorem chk_nbf : ∀ {T : Tr} {kd : Nat}, Wf w T → chk l w E true T = .inr kd → NBf l w E m T := by
  intro T
  induction T with
  | leaf k =>
    intro kd hW h k1 j hj hs
    unfold chk at h
    rw [if_neg (by omega), if_pos k1] at h
    unfold chn at h
    rw [hj] at h
    dsimp only at h
    rw [if_pos ⟨rfl, by omega⟩] at h
    cases h
  | branch p l' r il ir =>
    intro kd hW h
    obtain ⟨hWl, hWr, -⟩ := hW
    unfold chk at h
    by_cases cu : un (p % 64) = true
    · rw [if_pos cu] at h
      obtain ⟨ka, k1, -⟩ := sbd_i h
      exact ⟨fun z => absurd (cu.symm.trans z) (by decide), ir hWr k1⟩
    · rw [if_neg cu] at h
      have cu : un (p % 64) = false := by simpa using cu
      obtain ⟨ka, k1, h⟩ := sbd_i h
      obtain ⟨kb, k2, -⟩ := sbd_i h
      exact ⟨fun _ => il (hWl cu) k1, ir hWr k2⟩
theorem evl_cc {fv fv' : Nat → Rs (Int64 × Int64)} (h : ∀ j, j < E.length → (E.getD j eN).2.1 = 1 → fv j = fv' j) : ∀ (T : Tr) (c : Bool) (kd : Nat), Wf w T → chk l w E true T = .inr kd → evl l w E fv T c = evl l w E fv' T c := by
  intro T
  induction T with
  | leaf k =>
    intro c kd hW hk
    have hW : opd (kK w k) = true := hW
    simp only [opd, Bool.or_eq_true, decide_eq_true_eq] at hW
    unfold evl
    by_cases c2 : kK w k = 2
    · rw [if_pos c2, if_pos c2]
    rw [if_neg c2, if_neg c2]
    by_cases c3 : kK w k = 12
    · rw [if_pos c3, if_pos c3]
    rw [if_neg c3, if_neg c3]
    by_cases c4 : kK w k = 13
    · rw [if_pos c4, if_pos c4]
    rw [if_neg c4, if_neg c4]
    unfold chk at hk
    rw [if_neg c2, if_pos (by omega)] at hk
    unfold chn at hk
    cases hj : fnd l w E k with
    | none => rw [hj] at hk; cases hk
    | some j =>
      rw [hj] at hk
      dsimp only at hk
      have lt : j < E.length := by
        have hj : E.findIdx? (fun e => swd l w e.1 k) = some j := hj
        exact (List.findIdx?_eq_some_iff_getElem.mp hj).1
      by_cases s1 : (E.getD j eN).2.1 = 1
      · exact h j lt s1
      · rw [if_pos ⟨rfl, s1⟩] at hk
        cases hk
  | branch n l' r il ir =>
    intro c kd hW hk
    obtain ⟨hWl, hWr, -, -⟩ := hW
    unfold chk at hk
    unfold evl
    by_cases cu : un (n % 64) = true
    · rw [if_pos cu] at hk
      obtain ⟨ka, k1, -⟩ := sbd_i hk
      rw [if_pos cu, if_pos cu, ir false ka hWr k1]
    · rw [if_neg cu] at hk
      rw [if_neg cu, if_neg cu]
      have cu0 : un (n % 64) = false := by simpa using cu
      obtain ⟨ka, k1, hk⟩ := sbd_i hk
      obtain ⟨kb, k2, -⟩ := sbd_i hk
      have L := fun c => il c ka (hWl cu0) k1
      have R := fun c => ir c kb hWr k2
      rw [L false, R false]
      congr 1
      congr 1
      funext u
      rw [R (decide (u.1 = 1))]
/-- constants are values -/
def Cok (E : List En) : Prop := ∀ j, j < E.length → (E.getD j eN).2.1 = 1 → okv (if (E.getD j eN).2.2.1 then 2 else 1) (E.getD j eN).2.2.2.2.1
/-- no formula was met -/
def Unm (σ : st_S) : Prop := ∀ x, x < 60 → ¬ gE σ 44 x = gI σ 42 5
theorem fvn_c {j : Nat} (s1 : (E.getD j eN).2.1 = 1) : fvn l w E vs j = .inr (E.getD j eN).2.2.2.2.1 := by
  unfold fvn evn
  rw [if_pos s1]
/-- .. on a rule of constants -/
theorem F70c (ht : t = 4 ∨ t = 20) (hN : 200000 < N) (hSF : SF l w E X fs) (hnv : Nvk l w) (hco : Cok E) {T : Tr} {σ : st_S} {M : Nat → Nat → Int32} {a fe kd : Nat} (hMF : MF σ t n M l w E X fs) (hun : Unm σ) (hW : Wf w T) (hl : lev T ≤ 6) (hck : chk l w E true T = .inr kd) (hC : Cr l w E X M T a) (hfe : fe = a + tln T) (hfn : fe < n) (e0 : M fe 0 = nI 26) (e4 : M fe 4 = nI a) : match eT l w E T with
    | .inl er => ∃ σ' M', F_70 N t (nI fe) σ = some (nI er.1, σ') ∧ gI σ' 42 6 = nI er.2 ∧ FM t σ σ' ∧ CS σ' t n M' ∧ Sta M M'
    | .inr v => okv kd v ∧ ∃ σ' M', F_70 N t (nI fe) σ = some (0, σ') ∧ MF σ' t n M' l w E X fs ∧ FM t σ σ' ∧ Unm σ' ∧ (∀ i, (i < a ∨ fe ≤ i) → M' i = M i) ∧ Sta M M' ∧ Va M' (fe - 1) v := by
  have hkd := (chk_3 T kd hW hck).2 hl
  have hn24 := hMF.1.2.1
  have ee : eT l w E T = evl l w E (fvn l w E (gE σ 43)) T false := evl_cc (fun j _ s1 => by rw [fvn_c s1, fvn_c s1]) T false kd hW hck
  have G : Gv N t n l w E X fs (gE σ 43) (2 * n + 2) true := ⟨ht, by omega, hn24, by omega, hSF, hnv, fun j h1 h2 v h3 => by
    rw [fvn_c (h2 rfl)] at h3
    injection h3 with h3
    subst h3
    exact hco j h1 (h2 rfl)⟩
  have um : ∀ j, j < E.length → (E.getD j eN).2.1 = 2 → ¬ gE σ 44 (X j) = gI σ 42 5 := fun j h1 h2 => hun _ (hSF.2.1 j h1 h2).1
  have R := F70r G hN (Nat.zero_le _) (co := true) (fun _ => rfl) hW hl (chk_nbf hW hck) hck (by omega) hC hfe hfn ⟨hMF, fun j h1 h2 h3 => absurd h3 (um j h1 h2), fun _ _ => rfl, fun j h1 h2 h3 => by
    rcases h3 with z | z
    · exact absurd z (um j h1 h2)
    · omega, Nat.zero_le _, by show 0 + 2 * tln T + 0 < _; omega⟩ e0 e4
  rw [ee]
  cases hv : evl l w E (fvn l w E (gE σ 43)) T false with
  | inl er =>
    rw [hv] at R
    obtain ⟨σ', M', r1, r2, r3, r4, r5, r6⟩ := R
    exact ⟨σ', M', r1, r2, r3, r4, r5⟩
  | inr v =>
    rw [hv] at R
    obtain ⟨σ', M', q, r1, ⟨x1, x2, x3, x4, x5, x6, x7, x8, x9, x10⟩, r3⟩ := R
    refine ⟨evl_ok hnv (co := true) (fun j h1 h2 v h3 => ?_) T false kd v hW hck (by omega) hv, σ', M', r1, x2, x4, fun x hx => ?_, fun i hi => x7 i hi (fun j h1 => by omega), x8, r3⟩
    · rw [fvn_c (h2 rfl)] at h3
      injection h3 with h3
      subst h3
      exact hco j h1 (h2 rfl)
    · rw [x5.2.1 x (fun j h1 => by omega), FM.r5 x4]
      exact hun x hx
end RU
