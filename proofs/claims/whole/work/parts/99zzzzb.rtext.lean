/-! the reference explores: what it rests on -/
section OKV
variable {l : List Int32} {w : List (Nat × Nat × Nat)} {E : List En} {vs : Vl}
/-- the vars' values are values -/
def Vv (E : List En) (vs : Vl) : Prop := ∀ j, j < E.length → (E.getD j eN).2.1 = 3 → okv (kdn (E.getD j eN)) ((vs (vno E j)).toInt64, if (E.getD j eN).2.2.1 then 0 else 1)
theorem fvn_okv (hn : Nvk l w) (hc : Cok E) (hv : Vv E vs) (hF : ∀ j, j < E.length → (E.getD j eN).2.1 = 2 → Wf w (fTr E j) ∧ chk l w E false (fTr E j) = .inr (kdn (E.getD j eN))) (hk : ∀ j, j < E.length → 1 ≤ (E.getD j eN).2.1 ∧ (E.getD j eN).2.1 ≤ 3) : ∀ (j : Nat), j < E.length → ∀ v, fvn l w E vs j = .inr v → okv (if (E.getD j eN).2.2.1 then 2 else 1) v := by
  intro j
  induction j using Nat.strongRecOn with
  | ind j ih =>
    intro hj v h
    obtain ⟨k1, k2⟩ := hk j hj
    by_cases c1 : (E.getD j eN).2.1 = 1
    · rw [fvn_c c1] at h
      injection h with h
      subst h
      exact hc j hj c1
    by_cases c3 : (E.getD j eN).2.1 = 3
    · unfold fvn evn at h
      rw [if_neg c1, if_pos c3] at h
      injection h with h
      subst h
      exact hv j hj c3
    have c2 : (E.getD j eN).2.1 = 2 := by omega
    obtain ⟨f1, f2⟩ := hF j hj c2
    unfold fvn evn at h
    rw [if_neg c1, if_neg c3] at h
    refine evl_ok (co := false) hn (fun i hi _ u hu => ?_) (fTr E j) false (kdn (E.getD j eN)) v f1 f2 (by unfold kdn; split <;> decide) h
    have hu : (fvs l w E vs j).getD i (.inl (0, 0)) = .inr u := hu
    by_cases ci : i < j
    · rw [fvs_get l w E vs j i ci] at hu
      exact ih i ci hi u hu
    · have : (fvs l w E vs j).getD i (.inl (0, 0)) = .inl (0, 0) := by
        rw [List.getD_eq_getElem?_getD, List.getElem?_eq_none (by rw [fvs_len]; omega)]
        rfl
      rw [this] at hu
      cases hu
/-- faults of a rule whose names stand before the m-th -/
theorem evl_eb {fv : Nat → Rs (Int64 × Int64)} {m : Nat} (hf : ∀ j, j < m → ∀ e, fv j = .inl e → e.1 = 6 ∨ e.1 = 7 ∨ e.1 = 8) : ∀ (T : Tr) (c : Bool) (e : Nat × Nat), Wf w T → NBl l w E m T → evl l w E fv T c = .inl e → e.1 = 6 ∨ e.1 = 7 ∨ e.1 = 8 := by
  intro T
  induction T with
  | leaf k =>
    intro c e hW hB h
    have hW : opd (kK w k) = true := hW
    simp only [opd, Bool.or_eq_true, decide_eq_true_eq] at hW
    unfold evl at h
    split at h
    · cases h
    split at h
    · cases h
    split at h
    · cases h
    obtain ⟨j, j1, j2⟩ := hB (by omega)
    rw [j1] at h
    exact hf j j2 e h
  | branch n l' r il ir =>
    intro c e hW hB h
    obtain ⟨hWl, hWr, -⟩ := hW
    obtain ⟨hBl, hBr⟩ := hB
    unfold evl at h
    by_cases cu : un (n % 64) = true
    · rw [if_pos cu] at h
      rcases sbd_e h with z | ⟨a, -, z⟩
      · exact ir false e hWr hBr z
      · cases z
    have cu0 : un (n % 64) = false := by simpa using cu
    rw [if_neg cu] at h
    split at h
    · split at h
      · exact il false e (hWl cu0) (hBl cu0) h
      · exact ir false e hWr hBr h
    rcases sbd_e h with z | ⟨u, -, z⟩
    · exact il false e (hWl cu0) (hBl cu0) z
    split at z
    · split at z
      · exact ir false e hWr hBr z
      · cases z
    split at z
    · split at z
      · cases z
      · exact ir false e hWr hBr z
    split at z
    · exact ir _ e hWr hBr z
    rcases sbd_e z with z | ⟨v, -, z⟩
    · exact ir false e hWr hBr z
    · exact vr_er z
theorem fvn_eb (hF : ∀ j, j < E.length → (E.getD j eN).2.1 = 2 → Wf w (fTr E j) ∧ NBl l w E j (fTr E j)) (hk : ∀ j, j < E.length → 1 ≤ (E.getD j eN).2.1 ∧ (E.getD j eN).2.1 ≤ 3) : ∀ (j : Nat), j < E.length → ∀ e, fvn l w E vs j = .inl e → e.1 = 6 ∨ e.1 = 7 ∨ e.1 = 8 := by
  intro j
  induction j using Nat.strongRecOn with
  | ind j ih =>
    intro hj e h
    obtain ⟨k1, k2⟩ := hk j hj
    by_cases c1 : (E.getD j eN).2.1 = 1
    · rw [fvn_c c1] at h
      cases h
    by_cases c3 : (E.getD j eN).2.1 = 3
    · unfold fvn evn at h
      rw [if_neg c1, if_pos c3] at h
      cases h
    have c2 : (E.getD j eN).2.1 = 2 := by omega
    obtain ⟨f1, f2⟩ := hF j hj c2
    unfold fvn evn at h
    rw [if_neg c1, if_neg c3] at h
    refine evl_eb (m := j) (fun i hi u hu => ?_) (fTr E j) false e f1 f2 h
    have hu : (fvs l w E vs j).getD i (.inl (0, 0)) = .inl u := hu
    rw [fvs_get l w E vs j i hi] at hu
    exact ih i hi (by omega) u hu
end OKV
/-- the names' kinds -/
def NK (σ : st_S) (g : Nat) (E : List En) : Prop := ∀ j, j < E.length → 1 ≤ (E.getD j eN).2.1 ∧ (E.getD j eN).2.1 ≤ 3 ∧ ((E.getD j eN).2.1 = 3 → rnm E j < 12 ∧ gE σ (g + 18) (rnm E j) = if (E.getD j eN).2.2.1 then 1 else 0) ∧ ((E.getD j eN).2.1 ≠ 3 → rnm E j < 60)
/-- a text as the reference keeps it -/
def RT (g : Nat) (l : List Int32) (w : List (Nat × Nat × Nat)) (X : Tx) (n : Nat) (D : Nat → Nat → Int32) (fa : Nat → Nat) (σ : st_S) : Prop := DS σ g n D ∧ NS σ g n l w X.1 fa D ∧ NK σ g X.1 ∧ RLn σ g ∧ TgN l w X.1 fa D n (gI σ g 17) X.2.1 ∧ CosR w (gE σ) (RuR l w X.1 fa D n) (VNm l w X.1) g X.2.2 ∧ NCt σ g X ∧ ∀ a, a = g + 31 ∨ a = g + 33 ∨ a = g + 35 → nsc X.2.2 ≤ gN σ a ∧ gN σ a ≤ 100000
/-- what holds of it for ever -/
def RTp (l : List Int32) (w : List (Nat × Nat × Nat)) (X : Tx) (n : Nat) : Prop := n ≤ 16400 ∧ Nvk l w ∧ Cok X.1 ∧ X.1.length ≤ 72
section RTS
variable {N g x n k : Nat} {σ σ0 σ' : st_S} {D : Nat → Nat → Int32} {w : List (Nat × Nat × Nat)} {l : List Int32} {X : Tx} {E : List En} {fa : Nat → Nat} {vs : Vl} {m : Nat} {I J Rr : List (Nat × Nat)} {A L : List Nat}
theorem NS.nk (h : NS σ g n l w E fa D) (hl : RLn σ g) (r : NK σ g E) (hv : ∀ j, j < E.length → (E.getD j eN).2.1 = 3 → gE σ 167 (rnm E j) = vs (rnm E j)) (hm : m ≤ E.length) : NT σ g n l w E vs fa m D := by
  obtain ⟨h1, h2, h3, h4, h5, h6, h7⟩ := h
  obtain ⟨a1, a2, a3, a4, a5, a6, a7, a8, a9, a10⟩ := hl
  refine ⟨⟨a1 _ (by omega) (by omega), a1 _ (by omega) (by omega), a1 _ (by omega) (by omega), a1 _ (by omega) (by omega), a2 _ (by omega) (by omega), a7, a9, a10⟩, fun j hj s => ⟨(r j hj).2.2.2 (by omega), h1 j hj s⟩, fun j hj s => ?_, fun j hj => ⟨(r j hj).1, (r j hj).2.1⟩, fun j hj s => ?_, fun i j hij hj si sj => ?_⟩
  · obtain ⟨r1, r2⟩ := (r j hj).2.2.1 s
    refine ⟨r1, r2, ?_⟩
    rw [hv j hj s, (h2 j hj s).2.1]
  · obtain ⟨q1, q2⟩ := h4 j (by omega) s
    exact ⟨⟨(r j (by omega)).2.2.2 (by omega), q1⟩, q2⟩
  · have := h5 i j hij (by omega) (by omega) (by omega)
    exact ⟨by omega, h7 i j hij (by omega) si sj⟩
/-- a text stays -/
theorem RT.fr (hg : g = 79 ∨ g = 115) (h : RT g l w X n D fa σ) (fr : Fr 0 I J Rr A L σ σ') (hI : ∀ q ∈ I, q.1 < 79 ∨ 150 < q.1) (hA : ∀ a ∈ A, a < 79 ∨ 150 < a) (hL : ∀ a ∈ L, a < 79 ∨ 150 < a) (hn : ∀ a, a = 163 ∨ a = 164 ∨ a = 167 ∨ a = 168 ∨ a = 169 ∨ a = 170 → gN σ' a = gN σ a) : RT g l w X n D fa σ' := by
  obtain ⟨h1, h2, h3, h4, h5, h6, h7, h8⟩ := h
  have eI : ∀ a k, 79 ≤ a → a ≤ 150 → gI σ' a k = gI σ a k := fun a k z1 z2 => fr.1 a k (fun q => by have := hI _ q; dsimp only at this; omega)
  have eA : ∀ a, 79 ≤ a → a ≤ 150 → gN σ' a = gN σ a ∧ gE σ' a = gE σ a := fun a z1 z2 => fr.2.2.2.1 a (fun q => by have := hA _ q; omega)
  have eL : ∀ a, 79 ≤ a → a ≤ 150 → gL σ' a = gL σ a := fun a z1 z2 => fr.2.2.2.2.1 a (fun q => by have := hL _ q; omega)
  refine ⟨h1.fr fr (fun a z1 z2 q => by have := hI _ q; dsimp only at this; omega) (fun a z1 z2 q => by have := hA _ q; omega), h2.fr (Nat.le_refl _) (fun _ _ => rfl) (fun a z j _ _ => by rw [(eA a (by omega) (by omega)).2]) (fun a z j _ _ => by rw [(eA a (by omega) (by omega)).2]) (fun a z j _ _ => by rw [eL a (by omega) (by omega)]), fun j hj => ?_, ?_, ?_, ?_, ?_, fun a z => ?_⟩
  · rw [(eA (g + 18) (by omega) (by omega)).2]; exact h3 j hj
  · obtain ⟨a1, a2, a3, a4, a5, a6, a7, a8, a9, a10⟩ := h4
    exact ⟨fun a p q => (eA a (by omega) (by omega)).1.trans (a1 a p q), fun a p q => (eA a (by omega) (by omega)).1.trans (a2 a p q), fun a p q => (eA a (by omega) (by omega)).1.trans (a3 a p q), fun a p q => (eA a (by omega) (by omega)).1.trans (a4 a p q), (hn _ (by omega)).trans a5, (hn _ (by omega)).trans a6, (hn _ (by omega)).trans a7, (hn _ (by omega)).trans a8, (hn _ (by omega)).trans a9, (hn _ (by omega)).trans a10⟩
  · rw [eI g 17 (by omega) (by omega)]; exact h5
  · exact CosR.mo (mc := X.2.2.length) (m := nsc X.2.2) (fun _ _ _ q => q) (fun _ _ _ q => q) (fun a z1 z2 i _ => by rw [(eA a (by omega) (by omega)).2]) (fun a z1 z2 i _ => by rw [(eA a (by omega) (by omega)).2]) (fun a z i _ => by rw [(eA a (by omega) (by omega)).2]) (Nat.le_refl _) (Nat.le_refl _) h6
  · obtain ⟨b1, b2, b3, b4, b5, b6, b7, b8, b9⟩ := h7
    exact ⟨(eI _ _ (by omega) (by omega)).trans b1, (eI _ _ (by omega) (by omega)).trans b2, (eI _ _ (by omega) (by omega)).trans b3, b4, b5, b6, (eI _ _ (by omega) (by omega)).trans b7, (eI _ _ (by omega) (by omega)).trans b8, (eI _ _ (by omega) (by omega)).trans b9⟩
  · rw [(eA a (by omega) (by omega)).1]; exact h8 a z
/-- what is left of a text that was read -/
theorem RS.rt (h : RS g x l w σ0 σ X n D fa) : RT g l w X n D fa σ := by
  obtain ⟨⟨r1, r2, r3, r4, r5, r6, r7⟩, hf, hc⟩ := h
  obtain ⟨⟨b1, b2, b3, b4, b5, b6, b7, b8⟩, h2, h3, h4, h5, h6⟩ := r1
  obtain ⟨-, -, -, -, -, -, nr⟩ := b4
  have nb : nsc X.2.2 ≤ 40000 := by
    have q := b5 0 (by decide)
    have q2 := q.2.1
    have q3 := q.2.2.2.1
    omega
  have sz : ∀ {o : Nat}, Skx σ o → gI σ o 1 = nI (nsc X.2.2) → nsc X.2.2 ≤ gN σ (o + 1) ∧ gN σ (o + 1) ≤ 100000 := fun {o} q e => by
    obtain ⟨L, ⟨y1, y2, y3, y4⟩, y5⟩ := q
    rw [y1] at e
    have := (nI_eq (a := L.length) (b := nsc X.2.2) (by omega) (by omega)).mp e
    omega
  refine ⟨b5, r2, fun j hj => ⟨(nr j hj).1, (nr j hj).2.1, (nr j hj).2.2.1, fun z => ((nr j hj).2.2.2 z).1⟩, h2, r5, r6, hc, fun a z => ?_⟩
  obtain ⟨c1, c2, c3, c4, c5, c6, c7, c8, c9⟩ := hc
  rcases z with rfl | rfl | rfl
  · exact sz h4 c7
  · exact sz h5 c8
  · exact sz h6 c9
theorem RT.er (h : RT g l w X n D fa σ) {T : Tr} {kd a : Nat} (hR : RuR l w X.1 fa D n kd T a) {e : Nat × Nat} (he : exv l w X.1 vs T = .inl e) : e.1 = 6 ∨ e.1 = 7 ∨ e.1 = 8 := by
  obtain ⟨t1, t2, t3, -⟩ := h
  obtain ⟨r1, r2, r3, r4, r5, m', r6, r7, r8⟩ := hR
  exact evl_eb (m := m') (fun j hj u hu => fvn_eb (fun j hj s => ⟨(t2.2.2.2.1 j hj s).2.2.2.1, (t2.2.2.2.1 j hj s).2.2.2.2.2.1⟩) (fun j hj => ⟨(t3 j hj).1, (t3 j hj).2.1⟩) j (by omega) u hu) T false e r1 r7 he
/-- what changes while the reference explores -/
abbrev FX (σ σ' : st_S) : Prop := Fr 0 [(66, 12), (66, 16), (66, 17), (66, 23), (66, 29), (66, 30), (66, 38), (165, 1), (175, 1), (177, 1), (179, 1)] [] [] [166, 167, 168, 171, 172, 173, 174, 176, 178, 180, 181, 184] [163, 164, 169, 170, 182, 183, 185, 186] σ σ'
/-- lengths that stay -/
def XLn (σ : st_S) : Prop := gN σ 167 = 12 ∧ gN σ 168 = 60 ∧ gN σ 171 = 6144 ∧ gN σ 172 = 512 ∧ gN σ 173 = 512 ∧ gN σ 174 = 512 ∧ gN σ 181 = 4096 ∧ gN σ 182 = 4096 ∧ gN σ 183 = 4096 ∧ gN σ 184 = 12 ∧ gN σ 185 = 8 ∧ gN σ 186 = 8
theorem XLn.eq (h : XLn σ) (e : gN σ' = gN σ) : XLn σ' := by unfold XLn; rw [e]; exact h
theorem XLn.fw (h : XLn σ) (fr : FW σ σ') (h8 : gN σ' 168 = 60) : XLn σ' := by
  obtain ⟨a1, a2, a3, a4, a5, a6, a7, a8, a9, a10, a11, a12⟩ := h
  have e := fun a (z : a ∉ [166, 168]) => (fr.2.2.2.1 a z).1
  exact ⟨(e _ (by decide)).trans a1, h8, (e _ (by decide)).trans a3, (e _ (by decide)).trans a4, (e _ (by decide)).trans a5, (e _ (by decide)).trans a6, (e _ (by decide)).trans a7, (e _ (by decide)).trans a8, (e _ (by decide)).trans a9, (e _ (by decide)).trans a10, (e _ (by decide)).trans a11, (e _ (by decide)).trans a12⟩
/-- what holds in a state, whatever happens; σ0: where exploring began -/
def RX0 (g : Nat) (l : List Int32) (w : List (Nat × Nat × Nat)) (X : Tx) (n : Nat) (D : Nat → Nat → Int32) (fa : Nat → Nat) (σ0 σ : st_S) : Prop := RT g l w X n D fa σ ∧ Skx σ 165 ∧ XLn σ ∧ FX σ0 σ ∧ ∀ a, a = 176 ∨ a = 178 ∨ a = 180 → 16 ≤ gN σ a ∧ gN σ a ≤ 40000
/-- .. and as long as no fault is told -/
def RXs (g : Nat) (l : List Int32) (w : List (Nat × Nat × Nat)) (X : Tx) (n : Nat) (D : Nat → Nat → Int32) (fa : Nat → Nat) (vs : Vl) (σ0 σ : st_S) : Prop := RX0 g l w X n D fa σ0 σ ∧ gI σ 66 16 = 0 ∧ (∀ v, v < cnt X.1 3 → gE σ 167 v = vs v) ∧ MT l w X.1 vs X.1.length σ
/-- what is given -/
def XG (N g : Nat) (l : List Int32) (w : List (Nat × Nat × Nat)) (X : Tx) (n : Nat) (σ0 : st_S) : Prop := (g = 79 ∨ g = 115) ∧ 1000000 < N ∧ 20000 * Kc 72 < N ∧ RTp l w X n ∧ gC σ0 + 500000 < vz_M0
theorem FW.fx (fr : FW σ σ') : FX σ σ' := fr.mo (by intro a q; simp only [List.mem_cons, List.not_mem_nil, or_false] at q ⊢; rcases q with q | q | q | q <;> simp [q]) (by simp) (by simp) (by intro a q; simp only [List.mem_cons, List.not_mem_nil, or_false] at q ⊢; omega) (by intro a q; simp only [List.mem_cons, List.not_mem_nil, or_false] at q ⊢; omega)
theorem RX0.gc (h : RX0 g l w X n D fa σ0 σ) (hq : gC σ0 + 500000 < vz_M0) : gC σ + 400000 < vz_M0 := by
  obtain ⟨h1, ⟨L, h2⟩, h3, h4, h5⟩ := h
  have y6 := h5 176 (by omega)
  have y7 := h5 178 (by omega)
  have y8 := h5 180 (by omega)
  obtain ⟨a1, a2, a3, a4, a5, a6, a7, a8, a9, a10, a11, a12⟩ := h3
  have := Fr.gcl (k := 4) h4 (C := 100000) (fun a ha => by
    simp only [List.mem_cons, List.not_mem_nil, or_false] at ha
    have := h2.2
    rcases ha with rfl | rfl | rfl | rfl | rfl | rfl | rfl | rfl | rfl | rfl | rfl | rfl <;> omega) (by decide)
  omega
/-- frames that don't touch the text -/
theorem RX0.fr (hg : g = 79 ∨ g = 115) (h : RX0 g l w X n D fa σ0 σ) (fr : FX σ σ') (hs : Skx σ' 165) (hx : XLn σ') (h3 : gN σ' 163 = gN σ 163 ∧ gN σ' 164 = gN σ 164 ∧ gN σ' 169 = gN σ 169 ∧ gN σ' 170 = gN σ 170) (h4 : ∀ a, a = 176 ∨ a = 178 ∨ a = 180 → 16 ≤ gN σ' a ∧ gN σ' a ≤ 40000) : RX0 g l w X n D fa σ0 σ' := by
  obtain ⟨b1, b2, b3, b4, b5⟩ := h
  refine ⟨b1.fr hg fr ?_ ?_ ?_ ?_, hs, hx, Fr.t0 b4 fr, h4⟩
  · intro q z
    simp only [List.mem_cons, List.not_mem_nil, or_false] at z
    rcases z with rfl | rfl | rfl | rfl | rfl | rfl | rfl | rfl | rfl | rfl | rfl | rfl <;> simp
  · intro q z
    simp only [List.mem_cons, List.not_mem_nil, or_false] at z
    omega
  · intro q z
    simp only [List.mem_cons, List.not_mem_nil, or_false] at z
    omega
  · intro a z
    obtain ⟨x1, x2, -⟩ := hx
    obtain ⟨y1, y2, -⟩ := b3
    rcases z with rfl | rfl | rfl | rfl | rfl | rfl
    · exact h3.1
    · exact h3.2.1
    · exact x1.trans y1.symm
    · exact x2.trans y2.symm
    · exact h3.2.2.1
    · exact h3.2.2.2
/-- where no length changes -/
theorem RX0.eq (hg : g = 79 ∨ g = 115) (h : RX0 g l w X n D fa σ0 σ) (fr : FX σ σ') (e : gN σ' = gN σ) (h1 : gI σ' 165 1 = gI σ 165 1) (h2 : gE σ' 166 = gE σ 166) : RX0 g l w X n D fa σ0 σ' := by
  obtain ⟨b1, ⟨L, ⟨y1, y2, y3, y4⟩, y5⟩, b3, b4, b5⟩ := id h
  exact h.fr hg fr ⟨L, ⟨h1.trans y1, by rw [e]; exact y2, by rw [e]; exact y3, by rw [h2]; exact y4⟩, by rw [e]; exact y5⟩ (b3.eq e) (by rw [e]; exact ⟨rfl, rfl, rfl, rfl⟩) (by rw [e]; exact b5)
theorem RX0.fw (hg : g = 79 ∨ g = 115) (h : RX0 g l w X n D fa σ0 σ) (fr : FW σ σ') (h8 : gN σ' 168 = 60) (hs : Skx σ' 165) : RX0 g l w X n D fa σ0 σ' := by
  have e := fun a (z : a ∉ [166, 168]) => (fr.2.2.2.1 a z).1
  obtain ⟨b1, b2, b3, b4, b5⟩ := id h
  exact h.fr hg (FW.fx fr) hs (b3.fw fr h8) ⟨e _ (by decide), e _ (by decide), e _ (by decide), e _ (by decide)⟩ (fun a ha => by rw [e a (by simp only [List.mem_cons, List.not_mem_nil, or_false]; omega)]; exact b5 a ha)
/-- a rule is worked out in a state -/
theorem rx_ev (G : XG N g l w X n σ0) (hv : Vv X.1 vs) (h : RXs g l w X n D fa vs σ0 σ) {T : Tr} {kd a : Nat} (hR : RuR l w X.1 fa D n kd T a) : match exv l w X.1 vs T with
    | .inl e => ∃ σ', F_213 N g (nI a) σ = some σ' ∧ gI σ' 66 16 = nI e.1 ∧ gI σ' 66 17 = nI e.2 ∧ RX0 g l w X n D fa σ0 σ' ∧ FW σ σ'
    | .inr v => okv kd v ∧ ∃ σ', F_213 N g (nI a) σ = some σ' ∧ gL σ' 163 0 = v.1 ∧ gL σ' 164 0 = v.2 ∧ RXs g l w X n D fa vs σ0 σ' ∧ FW σ σ' := by
  obtain ⟨hg, hN, hK, ⟨hn, hnv, hco, hl⟩, hq⟩ := G
  obtain ⟨h0, hf, h7, hm⟩ := h
  have hq' := h0.gc hq
  obtain ⟨⟨t1, t2, t3, t4, t5⟩, hs, hx, -⟩ := id h0
  obtain ⟨r1, r2, r3, r4, r5, m', r6, r7, r8⟩ := hR
  have Km := Kc_mo hl
  have hv7 : ∀ j, j < X.1.length → (X.1.getD j eN).2.1 = 3 → gE σ 167 (rnm X.1 j) = vs (rnm X.1 j) := fun j hj s => h7 _ (t2.2.1 j hj s).1
  have GWx : GW N g n l w X.1 vs fa false X.1.length σ D := ⟨hg, by omega, by omega, hq', hn, Nat.le_refl _, hnv, t1, t2.nk t4 t3 hv7 (Nat.le_refl _), fun j hj _ => fvn_okv hnv hco hv (fun j hj s => ⟨(t2.2.2.2.1 j hj s).2.2.2.1, (t2.2.2.2.1 j hj s).2.2.2.2.2.2⟩) (fun j hj => ⟨(t3 j hj).1, (t3 j hj).2.1⟩) j hj⟩
  have K := F185g GWx hs t4.2.2.2.2.1 t4.2.2.2.2.2.1 hf hm (co := false) (b := a) (by decide) r1 r2 r6 r7.nf r5 r3 r4 r8 (by omega)
  unfold exv
  have e13 : ∀ s, F_185 N g (nI a) σ = some s → F_213 N g (nI a) σ = some s := fun s z => by
    unfold F_213
    rw [z, ob_some]
  cases hev : evl l w X.1 (fvn l w X.1 vs) T false with
  | inl e =>
    rw [hev] at K
    obtain ⟨s, k1, k2, k3, k4, k5, k6⟩ := K
    exact ⟨s, e13 s k1, k2, k3, h0.fw hg k4 k5 k6, k4⟩
  | inr v =>
    rw [hev] at K
    obtain ⟨ok, s, k1, k2, k3, k4, k5, k6, k7⟩ := K
    exact ⟨ok, s, e13 s k1, k3, k4, ⟨h0.fw hg k5 k7.1 k6, k2, fun u hu => by rw [(k5.2.2.2.1 167 (by decide)).2]; exact h7 u hu, k7⟩, k5⟩
end RTS
