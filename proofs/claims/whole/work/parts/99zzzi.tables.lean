/-! the reference's items: working out, tables of names -/
section WG
variable {N g n : Nat} {σ : st_S} {D : Nat → Nat → Int32} {w : List (Nat × Nat × Nat)} {l : List Int32} {E : List En} {vs : Nat → Int32} {fa : Nat → Nat} {cc : Bool} {m : Nat}
/-- a rule is worked out -/
theorem F185g (G : GW N g n l w E vs fa cc m σ D) (hs : Skx σ 165) (h3 : gN σ 163 = 16400) (h4 : gN σ 164 = 16400) (hf : gI σ 66 16 = 0) (hm : MT l w E vs m σ) {T : Tr} {a kd m' b : Nat} {co : Bool} (hcc : cc = true → co = true) (hw : Wf w T) (h6 : lev T ≤ 6) (hm' : m' ≤ m) (hNB : NBf l w E m' T) (hck : chk l w E co T = .inr kd) (hR : Rt l w (Vx l w E) D T a (-1)) (ha : a + rln T ≤ n) (hb : ∀ j, j < m' → (E.getD j eN).2.1 = 2 → fa j + rln (fTr E j) ≤ b) (hb2 : rln T + b ≤ 16400) : match evl l w E (fvn l w E vs) T false with
    | .inl e => ∃ σ', F_185 N g (nI a) σ = some σ' ∧ gI σ' 66 16 = nI e.1 ∧ gI σ' 66 17 = nI e.2 ∧ FW σ σ' ∧ gN σ' 168 = 60 ∧ Skx σ' 165
    | .inr v => okv kd v ∧ ∃ σ', F_185 N g (nI a) σ = some σ' ∧ gI σ' 66 16 = 0 ∧ gL σ' 163 0 = v.1 ∧ gL σ' 164 0 = v.2 ∧ FW σ σ' ∧ Skx σ' 165 ∧ MT l w E vs m σ' := by
  have hN := G.2.2.1
  have hq := G.2.2.2.1
  have hn := G.2.2.2.2.1
  obtain ⟨L, hs⟩ := hs
  have kd0 : kd ≠ 0 := by have := (chk_3 T kd hw hck).2 h6; omega
  have f1 : Fr 0 [(66, 23)] [] [] [] [] σ (st_i σ 66 23 0) := Fr.i σ 0 (by simp)
  have f2 : Fr 0 [(165, 1)] [] [] [] [] (st_i σ 66 23 0) (st_i (st_i σ 66 23 0) 165 1 0) := Fr.i _ 0 (by simp)
  have fw : FW σ (st_i (st_i σ 66 23 0) 165 1 0) := Fr.t0 (f1.mo (by simp) (by simp) (by simp) (by simp) (by simp)) (f2.mo (by simp) (by simp) (by simp) (by simp) (by simp))
  have q0 : WQ l w E vs m σ (st_i (st_i σ 66 23 0) 165 1 0) [] [] := by
    refine ⟨fw, sk_0 (hs.fr f1 (by simp) (by simp)), ⟨rfl, h3, h4, fun i hi => absurd hi (Nat.not_lt_zero i)⟩, hf, ?_⟩
    exact (hm.fr f1 (by simp) (by simp) (by simp)).fr f2 (by simp) (by simp) (by simp)
  obtain ⟨s1, a1, a2⟩ := wq_push (N := N) hq q0 (by decide) 0 a
  have a1 : F_186 N 0 (nI a) (st_i (st_i σ 66 23 0) 165 1 0) = some s1 := a1
  have rc : rtc T a false = [a] := by rw [rtc_n (by omega)]; exact rts_6 a hw h6
  have W := ewT G m' hm' T hw co s1 [] [] a (-1) false kd b hcc hw hNB hck kd0 hR ha hb (by rw [rc]; exact a2) (by show 0 + _ + _ ≤ _; omega) (by show 0 + _ + _ ≤ _; omega)
  have run : F_185 N g (nI a) σ = L_185 N g N s1 := by
    unfold F_185
    rw [a1, ob_some]
  have kb : rln T * Kc m' ≤ 20000 * Kc m := Nat.mul_le_mul (by omega) (Kc_mo hm')
  have lN : rln T * Kc m' < N := by omega
  cases hv : evl l w E (fvn l w E vs) T false with
  | inl e =>
    rw [hv] at W
    obtain ⟨σ', c, k1, k2, k3⟩ := W
    refine ⟨σ', ?_, k3⟩
    rw [run]
    have := k2 (N - c - 1)
    rw [show N - c - 1 + c + 1 = N by omega] at this
    exact this
  | inr v =>
    rw [hv] at W
    obtain ⟨σ', c, ks, k1, k2, k3, k4, k5⟩ := W
    have ek := k4.1 (by omega)
    subst ek
    obtain ⟨w1, w2, w3, w4, w5⟩ := k3
    refine ⟨gw_ok G hcc hw hck kd0 hv, σ', ?_, w4, (w3.2.2.2 0 (show 0 < 1 by decide)).1, (w3.2.2.2 0 (show 0 < 1 by decide)).2, w1, ⟨_, w2⟩, w5⟩
    rw [run]
    have := k2 (N - c)
    rw [show N - c + c = N by omega] at this
    rw [this]
    obtain ⟨f, hf⟩ : ∃ f, N - c = f + 1 := ⟨N - c - 1, by omega⟩
    rw [hf]
    unfold L_185
    rw [show gI σ' 165 1 = 0 from w2.1.1, if_pos (by decide)]
end WG
/-- the tables of the names: consts, vars, formulas -/
def NS (σ : st_S) (g n : Nat) (l : List Int32) (w : List (Nat × Nat × Nat)) (E : List En) (fa : Nat → Nat) (D : Nat → Nat → Int32) : Prop :=
  (∀ j, j < E.length → (E.getD j eN).2.1 = 1 → gE σ (g + 13) (rnm E j) = 0 ∧ gL σ (g + 16) (rnm E j) = (E.getD j eN).2.2.2.2.1.1 ∧ gL σ (g + 17) (rnm E j) = (E.getD j eN).2.2.2.2.1.2) ∧
  (∀ j, j < E.length → (E.getD j eN).2.1 = 3 → rnm E j < cnt E 3 ∧ rnm E j = (E.getD j eN).2.2.2.2.2.2.1 ∧ gE σ (g + 19) (rnm E j) = (E.getD j eN).2.2.2.2.2.1.1 ∧ gE σ (g + 20) (rnm E j) = (E.getD j eN).2.2.2.2.2.1.2.1 ∧ gE σ (g + 21) (rnm E j) = (E.getD j eN).2.2.2.2.2.1.2.2) ∧
  (∀ j, j < E.length → (E.getD j eN).2.1 ≠ 3 → rnm E j < cnt E 1 + cnt E 2) ∧
  (∀ j, j < E.length → (E.getD j eN).2.1 = 2 → (gE σ (g + 13) (rnm E j) = 1 ∧ gE σ (g + 15) (rnm E j) = nI (fa j)) ∧ Rt l w (Vx l w E) D (fTr E j) (fa j) (-1) ∧ fa j + rln (fTr E j) ≤ n ∧ Wf w (fTr E j) ∧ lev (fTr E j) ≤ 6 ∧ NBl l w E j (fTr E j) ∧ chk l w E false (fTr E j) = .inr (kdn (E.getD j eN))) ∧
  (∀ i j, i < j → j < E.length → (E.getD i eN).2.1 ≠ 3 → (E.getD j eN).2.1 ≠ 3 → rnm E i < rnm E j) ∧
  (∀ i j, i < j → j < E.length → (E.getD i eN).2.1 = 3 → (E.getD j eN).2.1 = 3 → rnm E i < rnm E j) ∧
  (∀ i j, i < j → j < E.length → (E.getD i eN).2.1 = 2 → (E.getD j eN).2.1 = 2 → fa i + rln (fTr E i) ≤ fa j)
section NSS
variable {N g x n n' : Nat} {σ σ0 σ' : st_S} {D D' : Nat → Nat → Int32} {w : List (Nat × Nat × Nat)} {l : List Int32} {E : List En} {e : En} {fa fa' : Nat → Nat} {vs : Nat → Int32} {m : Nat}
theorem NS.nt (h : NS σ g n l w E fa D) (hl : RLn σ g) (hR : NR σ g E) (hv : ∀ j, j < E.length → (E.getD j eN).2.1 = 3 → gE σ 167 (rnm E j) = vs (rnm E j)) (hm : m ≤ E.length) : NT σ g n l w E vs fa m D := by
  obtain ⟨h1, h2, h3, h4, h5, h6, h7⟩ := h
  obtain ⟨a1, a2, a3, a4, a5, a6, a7, a8, a9, a10⟩ := hl
  obtain ⟨-, -, -, -, -, -, r⟩ := hR
  refine ⟨⟨a1 _ (by omega) (by omega), a1 _ (by omega) (by omega), a1 _ (by omega) (by omega), a1 _ (by omega) (by omega), a2 _ (by omega) (by omega), a7, a9, a10⟩, fun j hj s => ⟨((r j hj).2.2.2 (by omega)).1, h1 j hj s⟩, fun j hj s => ?_, fun j hj => ⟨(r j hj).1, (r j hj).2.1⟩, fun j hj s => ?_, fun i j hij hj si sj => ?_⟩
  · obtain ⟨r1, r2⟩ := (r j hj).2.2.1 s
    refine ⟨r1, r2, ?_⟩
    rw [hv j hj s, (h2 j hj s).2.1]
  · obtain ⟨q1, q2⟩ := h4 j (by omega) s
    exact ⟨⟨((r j (by omega)).2.2.2 (by omega)).1, q1⟩, q2⟩
  · have := h5 i j hij (by omega) (by omega) (by omega)
    exact ⟨by omega, h7 i j hij (by omega) si sj⟩
/-- tables stay -/
theorem NS.fr (h : NS σ g n l w E fa D) (hn : n ≤ n') (hD : ∀ i, i < n → D' i = D i) (hE : ∀ a, a = g + 13 ∨ a = g + 15 → ∀ j, j < E.length → (E.getD j eN).2.1 ≠ 3 → gE σ' a (rnm E j) = gE σ a (rnm E j)) (hF : ∀ a, a = g + 19 ∨ a = g + 20 ∨ a = g + 21 → ∀ j, j < E.length → (E.getD j eN).2.1 = 3 → gE σ' a (rnm E j) = gE σ a (rnm E j)) (hL : ∀ a, a = g + 16 ∨ a = g + 17 → ∀ j, j < E.length → (E.getD j eN).2.1 ≠ 3 → gL σ' a (rnm E j) = gL σ a (rnm E j)) : NS σ' g n' l w E fa D' := by
  obtain ⟨h1, h2, h3, h4, h5, h6, h7⟩ := h
  refine ⟨fun j hj s => ?_, fun j hj s => ?_, h3, fun j hj s => ?_, h5, h6, h7⟩
  · rw [hE _ (by omega) j hj (by omega), hL _ (by omega) j hj (by omega), hL _ (by omega) j hj (by omega)]
    exact h1 j hj s
  · rw [hF _ (by omega) j hj s, hF _ (by omega) j hj s, hF _ (by omega) j hj s]
    exact h2 j hj s
  · rw [hE _ (by omega) j hj (by omega), hE _ (by omega) j hj (by omega)]
    obtain ⟨q1, q2, q3, q4⟩ := h4 j hj s
    exact ⟨q1, q2.fr (fun i _ z => hD i (by omega)), by omega, q4⟩
/-- a rule of constants is worked out -/
theorem F185c (G : RG N g x l w E σ0) (hnv : Nvk l w) (hco : Cok E) (h : RM g x l w E σ0 σ n D) (hS : NS σ g n l w E fa D) (hf : gI σ 66 16 = 0) (hn : n ≤ 16400) {T : Tr} {a kd : Nat} (hw : Wf w T) (h6 : lev T ≤ 6) (hck : chk l w E true T = .inr kd) (hR : Rt l w (Vx l w E) D T a (-1)) (ha : a + rln T ≤ n) : match eT l w E T with
    | .inl e => ∃ σ', F_185 N g (nI a) σ = some σ' ∧ gI σ' 66 16 = nI e.1 ∧ gI σ' 66 17 = nI e.2 ∧ RM g x l w E σ0 σ' n D ∧ FW σ σ'
    | .inr v => okv kd v ∧ ∃ σ', F_185 N g (nI a) σ = some σ' ∧ gI σ' 66 16 = 0 ∧ gL σ' 163 0 = v.1 ∧ gL σ' 164 0 = v.2 ∧ RM g x l w E σ0 σ' n D ∧ FW σ σ' := by
  obtain ⟨hg, hx, hN, h40, hl, hq, hP, hW, hu, hm⟩ := G
  have hM := h
  obtain ⟨h1, h2, h3, -⟩ := h
  have gc := h1.1.gc hq
  have nt : NT σ g n l w E (gE σ 167) fa 0 D := hS.nt h2 h1.2.2.2.1 (fun _ _ _ => rfl) (Nat.zero_le _)
  have GG : GW N g n l w E (gE σ 167) fa true 0 σ D := ⟨hg, hN, by show 20000 * 2 < N; omega, gc, hn, Nat.zero_le _, hnv, h1.2.2.2.2.1, nt, fun j hj hc v hv => by
    have s1 := hc rfl
    rw [fvn_c s1] at hv
    injection hv with hv
    rw [← hv]
    exact hco j hj s1⟩
  have l3 : gN σ 163 = 16400 := h2.2.2.2.2.1
  have l4 : gN σ 164 = 16400 := h2.2.2.2.2.2.1
  have l8 : gN σ 168 = 60 := h2.2.2.2.2.2.2.2.1
  have K := F185g (co := true) (m' := 0) (b := 0) GG h3 l3 l4 hf ⟨l8, fun j hj => absurd hj (Nat.not_lt_zero j)⟩ (fun z => z) hw h6 (Nat.le_refl _) (chk_nbf hw hck) hck hR ha (fun j hj => absurd hj (Nat.not_lt_zero j)) (by omega)
  have ee : eT l w E T = evl l w E (fvn l w E (gE σ 167)) T false := evl_cc (fun j _ s1 => by rw [fvn_c s1, fvn_c s1]) T false kd hw hck
  rw [ee]
  cases hv : evl l w E (fvn l w E (gE σ 167)) T false with
  | inl e =>
    rw [hv] at K
    obtain ⟨σ', k1, k2, k3, k4, k5, k6⟩ := K
    exact ⟨σ', k1, k2, k3, hM.fw hg hx k4 k5 k6, k4⟩
  | inr v =>
    rw [hv] at K
    obtain ⟨ok, σ', k1, k2, k3, k4, k5, k6, k7⟩ := K
    exact ⟨ok, σ', k1, k2, k3, k4, hM.fw hg hx k5 k7.1 k6, k5⟩
/-- a rule is made and looked at -/
theorem rm_rule (G : RG N g x l w E σ0) {T : Tr} {co : Bool} {kw : Nat} (hk : kw = 1 ∨ kw = 2) (hw : Wf w T) (hl6 : lev T ≤ 6) (h : RM g x l w E σ0 σ n D) (hf : gI σ 66 16 = 0) (hn : n + rln T < 20000) : match rok l w E co kw T with
    | .inl e => ∃ σ' n' D', F_201 N g x (nI (bw T)) (nI (ew T)) (if kw = 2 then 1 else 0) (if co = true then 1 else 0) σ = some (nI n, σ') ∧ gI σ' 66 16 = nI e.1 ∧ gI σ' 66 17 = nI e.2 ∧ RM g x l w E σ0 σ' n' D' ∧ FZ g σ σ'
    | .inr _ => ∃ σ' D', F_201 N g x (nI (bw T)) (nI (ew T)) (if kw = 2 then 1 else 0) (if co = true then 1 else 0) σ = some (nI n, σ') ∧ gI σ' 66 16 = 0 ∧ RM g x l w E σ0 σ' (n + rln T) D' ∧ (∀ i, i < n → D' i = D i) ∧ Rt l w (Vx l w E) D' T n (-1) ∧ FZ g σ σ' := by
  have K := F201 (N := N) (co := co) G hk hw hl6 h.1 hf hn
  cases hr : rok l w E co kw T with
  | inl e =>
    rw [hr] at K
    obtain ⟨σ', n', D', k1, k2, k3, k4, k5⟩ := K
    exact ⟨σ', n', D', k1, k2, k3, h.fz G.1 k4 k5, k5⟩
  | inr kd =>
    rw [hr] at K
    obtain ⟨σ', D', k1, k2, k3, k4, k5, k6⟩ := K
    exact ⟨σ', D', k1, k2, h.fz G.1 k3 k6, k4, k5, k6⟩
end NSS
