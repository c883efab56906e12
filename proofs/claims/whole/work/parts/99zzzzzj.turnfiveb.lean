/-! a turn with explore, whole; the beginning -/
section TU6
set_option maxHeartbeats 4000000 in
/-- A TURN WITH EXPLORE -/
theorem qq_t5 : Qx Qq := by
  intro L xs n b σ hi _ hn hL hk h17
  obtain ⟨hQ, ⟨x, l0, a1, hx, a3, a4, a5, a6, a7, a8, a9, a10, a11⟩, hF, c, hc, po⟩ := id hi
  obtain ⟨h1, h2, h3, h4, ⟨r1, r2, r3, r4, r5⟩, -, h9⟩ := id hQ
  obtain ⟨t, g, l, w, X, tg, n1, X', fs, tge, hs, m, D, fa, ht, q5, q9, tx, k1, -⟩ := h9 h17
  have ht' : t = 4 ∨ t = 20 := by omega
  have hg : g = 79 ∨ g = 115 := by omega
  have hM : vz_M0 = 1000000 := rfl
  have gc := room_q po (by omega) h3 h4 a6 a7 a8
  obtain ⟨N, hN1, hN2⟩ : ∃ N, 1000000 < N ∧ 20000 * Kc 72 < N := by
    generalize Kc 72 = K
    exact ⟨20000 * K + 1000001, by omega, by omega⟩
  obtain ⟨σ1, e1, kr, k9, k8, fk, ks, km, sq⟩ := cls_x hN1 ht' h3 (by omega) h17 q5 tx k1
  have I1 : ∀ a k, (a ≠ 1 ∨ (k ≠ 8 ∧ k ≠ 9)) → a ≠ 42 → a ≠ 52 → a ≠ 62 → gI σ1 a k = gI σ a k := fun a k z1 z2 z3 z4 => fk.1 _ _ (by simp only [List.mem_cons, List.not_mem_nil, or_false, Prod.mk.injEq]; omega)
  have A1 : ∀ a, (a < 4 ∨ 65 < a) → gN σ1 a = gN σ a ∧ gE σ1 a = gE σ a := fun a z => fk.2.2.2.1 _ (by simp only [List.mem_cons, List.not_mem_nil, or_false]; omega)
  have R1 : ∀ a k, a = 1 ∨ a = 66 → gR σ1 a k = gR σ a k := fun a k z => fk.2.2.1 _ _ (by simp only [List.mem_cons, List.not_mem_nil, or_false, Prod.mk.injEq]; omega)
  have L1 : ∀ a, gL σ1 a = gL σ a := fun a => fk.2.2.2.2.1 a (by simp)
  have rs1 : Rst σ1 := h4.up (fun a k z => I1 a k (by omega) (by omega) (by omega) (by omega)) (fun a z1 z2 => (A1 a (by omega)).1) (fun a z => A1 a (by omega))
  have po1 : Po 0 σ σ1 := fk.2.2.2.2.2.2
  have gc1 := room_q (Po.tz' po po1) (by omega) ks rs1 (by rw [(A1 3 (by omega)).1]; exact a6) (by rw [(A1 68 (by omega)).1]; exact a7) (by rw [(A1 70 (by omega)).1]; exact a8)
  obtain ⟨v, hv⟩ : ∃ v, gI σ1 62 7 = v := ⟨_, rfl⟩
  rw [hv] at e1
  obtain ⟨sr, esr⟩ : ∃ sr, st_i (st_E σ1 187 0 v.toInt64) 66 0 0 = sr := ⟨_, rfl⟩
  have fs1 : Fr 0 [(66, 0)] [] [] [] [187] σ1 sr := by rw [← esr]; exact Fr.t0 (Fr.E _ _ _ (by simp)) (Fr.i _ _ (by simp))
  have nN : gN sr = gN σ1 := by rw [← esr]; rfl
  have nE : gE sr = gE σ1 := by rw [← esr]; rfl
  have nC : gC sr = gC σ1 := by rw [← esr]; rfl
  have Ir : ∀ a k, (a ≠ 66 ∨ k ≠ 0) → gI sr a k = gI σ1 a k := fun a k z => fs1.1 _ _ (by simp only [List.mem_cons, List.not_mem_nil, or_false, Prod.mk.injEq]; omega)
  have Rr : ∀ a k, gR sr a k = gR σ1 a k := fun a k => fs1.2.2.1 a k (by simp)
  have Lr : ∀ a, a ≠ 187 → gL sr a = gL σ1 a := fun a z => fs1.2.2.2.2.1 a (by simp only [List.mem_cons, List.not_mem_nil, or_false]; exact z)
  have l187 : gL sr 187 0 = v.toInt64 := by
    rw [← esr]
    show st_u (gL σ1) 187 0 v.toInt64 187 0 = v.toInt64
    exact st_u_s _ _ _ _
  have rsr : Rst sr := rs1.up (fun a k z => Ir a k (Or.inl (by omega))) (fun a _ _ => by rw [nN]) (fun a _ => ⟨by rw [nN], by rw [nE]⟩)
  have rt : RT g l w X m D fa sr := tx.2.2.2.2.2.2.1.up hg (fun a k _ _ => (Ir a k (by omega)).trans (I1 a k (by omega) (by omega) (by omega) (by omega))) (fun a _ _ => ⟨by rw [nN]; exact (A1 a (by omega)).1, by rw [nE]; exact (A1 a (by omega)).2⟩) (fun a _ _ => (Lr a (by omega)).trans (L1 a)) (fun a _ => by rw [nN]; exact (A1 a (by omega)).1)
  have h11 : ¬ gI sr 66 11 = 0 := by
    rw [Ir 66 11 (by omega), I1 66 11 (by omega) (by omega) (by omega) (by omega), ← r4]
    exact h17
  have h00 : gI sr 66 0 = 0 := by rw [← esr, gI_i, if_pos ⟨rfl, rfl⟩]
  have G : XG N g l w X m sr := ⟨hg, hN1, hN2, tx.2.2.2.2.2.2.2, by rw [nC]; omega⟩
  have Z := F210 (D := D) (fa := fa) G tx.2.2.1.1 tx.2.2.2.1 ⟨rt, (rsr.1 g hg).1 165 (by simp), rsr.2.2.1, Fr.rf _, rsr.2.2.2⟩ h11 h00
  have F0 : F_210 N g sr = F_210 N g (st_E σ1 187 0 v.toInt64) := by rw [← esr]; exact f210_0 _
  rw [F0] at Z
  have fin : ∀ σ2, F_210 N g (st_E σ1 187 0 v.toInt64) = some (v, σ2) → RX0 g l w X m D fa sr σ2 → gI σ2 66 12 = gI σ1 62 8 → gI σ2 66 30 = gI σ1 62 9 → gI σ2 66 29 = gI σ1 52 10 → (Kst σ2 → Rst σ2 → KRs σ2 X.1 (xex l w X tg) → R9 σ2 ∧ Rg σ2 ∧ Rv σ2) → Stq Qq L xs n b σ := by
    intro σ2 F2 rx e12 e30 e29 hg3
    obtain ⟨xrt, xsk, xxl, fx, xb⟩ := rx
    have I2 : ∀ a k, a < 66 ∨ (66 < a ∧ a < 165) ∨ (a = 66 ∧ (k = 0 ∨ k = 11)) → gI σ2 a k = gI sr a k := fun a k z => fx.1 _ _ (by simp only [List.mem_cons, List.not_mem_nil, or_false, Prod.mk.injEq]; omega)
    have I3 : ∀ a k, a < 66 ∨ (66 < a ∧ a < 165) → gI σ2 a k = gI σ1 a k := fun a k z => (I2 a k (by omega)).trans (Ir a k (by omega))
    have A2 : ∀ a, a < 166 ∨ 186 < a → gN σ2 a = gN σ1 a ∧ gE σ2 a = gE σ1 a := fun a z => by
      have y := fx.2.2.2.1 a (by simp only [List.mem_cons, List.not_mem_nil, or_false]; omega)
      exact ⟨y.1.trans (by rw [nN]), y.2.trans (by rw [nE])⟩
    have R2 : ∀ a k, a = 1 ∨ a = 66 → gR σ2 a k = gR σ a k := fun a k z => (fx.2.2.1 a k (by simp)).trans ((Rr a k).trans (R1 a k z))
    have ks2 : Kst σ2 := ks.up (I3 _ _ (by omega)) (fun t ht => I3 _ _ (by omega)) (fun a _ _ => (A2 a (by omega)).1) (fun a _ _ => (A2 a (by omega)).2)
    have rs2 : Rst σ2 := rst_fx rsr fx xsk xxl xb
    have kr2 : KRs σ2 X.1 (xex l w X tg) := kr.up (fun k _ _ => I3 _ _ (by omega)) (fun k _ _ => I3 _ _ (by omega)) (fun a _ _ => A2 a (by omega))
    obtain ⟨M, km1, b1, b2, b3, b4⟩ := km
    obtain ⟨b0, ⟨d1, d2, d3, d4, d5⟩, bc, s5, s6, s7⟩ := sq
    have A3 : ∀ a, a < 166 → gN σ2 a = gN σ1 a := fun a z => (A2 a (by omega)).1
    have E3 : ∀ a, a < 166 → gE σ2 a = gE σ1 a := fun a z => (A2 a (by omega)).2
    have sq2 : SQ σ2 t X.1 X' fs tge X.2.2.length hs := by
      unfold SQ LN
      rw [A3 (t + 10) (by omega), A3 (t + 11) (by omega), A3 (t + 12) (by omega), A3 (t + 13) (by omega), A3 (t + 14) (by omega), A3 (t + 15) (by omega), A3 43 (by omega), A3 44 (by omega), A3 45 (by omega), E3 (t + 10) (by omega), E3 (t + 11) (by omega), E3 (t + 12) (by omega), E3 (t + 13) (by omega), E3 (t + 14) (by omega), E3 (t + 15) (by omega), I3 t 7 (by omega), I3 t 8 (by omega), I3 t 9 (by omega), I3 t 10 (by omega), I3 t 11 (by omega)]
      exact ⟨b0, ⟨d1, d2, d3, d4, d5⟩, bc, s5, s6, s7⟩
    have q : Qq σ2 := by
      refine ⟨?_, ?_, ks2, rs2, ⟨?_, ?_, ?_, ?_, ?_⟩, hg3 ks2 rs2 kr2, fun _ => ⟨t, g, l, w, X, tg, n1, X', fs, tge, hs, m, D, fa, ht, (R2 1 5 (Or.inl rfl)).trans q5, (R2 66 9 (Or.inr rfl)).trans q9, ⟨tx.1, tx.2.1, tx.2.2.1, tx.2.2.2.1, ⟨M, km1, (I3 _ _ (by omega)).trans b1, b2, fun c hc => by rw [A3 (t + 2 + c) (by omega)]; exact b3 c hc, fun c hc i hi => by rw [E3 (t + 2 + c) (by omega)]; exact b4 c hc i hi⟩, sq2, xrt, tx.2.2.2.2.2.2.2⟩, fun _ => kr2, fun z => absurd ((I3 1 8 (by omega)).symm.trans z) k8⟩⟩
      · unfold Pr2
        rw [R2 1 5 (Or.inl rfl), R2 1 6 (Or.inl rfl), R2 66 9 (Or.inr rfl), R2 66 10 (Or.inr rfl)]
        exact h1
      · unfold Tp2
        rw [R2 66 1 (Or.inr rfl), R2 66 2 (Or.inr rfl)]
        exact h2
      · rw [I3 1 9 (by omega), k9, e12]
      · rw [I3 62 9 (by omega), e30]
      · rw [I3 52 10 (by omega), e29]
      · rw [I3 1 7 (by omega), I2 66 11 (by omega), Ir 66 11 (by omega), I1 1 7 (by omega) (by omega) (by omega) (by omega), I1 66 11 (by omega) (by omega) (by omega) (by omega)]
        exact r4
      · rw [(A2 187 (by omega)).1, (A1 187 (by omega)).1]
        exact r5
    have n3 : ∀ a, a = 3 ∨ a = 68 ∨ a = 70 → gN σ2 a = gN σ a ∧ gE σ2 a = gE σ a := fun a z => ⟨(A2 a (by omega)).1.trans (A1 a (by omega)).1, (A2 a (by omega)).2.trans (A1 a (by omega)).2⟩
    have nx := n3 (x + 1) (by omega)
    have gf : gF σ2 0 = gF σ 0 := fx.2.2.2.2.2.1.trans (fs1.2.2.2.2.2.1.trans fk.2.2.2.2.2.1)
    have po2 : Po 0 σ σ2 := Po.tz' (Po.tz' po1 fs1.2.2.2.2.2.2) fx.2.2.2.2.2.2
    have h87 : gN σ1 187 = 1 := (A1 187 (by omega)).1.trans r5
    have h87' : gN σ2 187 = 1 := (A2 187 (by omega)).1.trans h87
    have g00 : gL σ2 187 0 = v.toInt64 := by
      rw [fx.2.2.2.2.1 187 (by simp)]
      exact l187
    have g0 : gI σ2 66 0 = 0 := (I2 66 0 (by omega)).trans h00
    refine ⟨some (v, 0), σ2, ⟨q, ⟨x, l0, (R2 66 1 (Or.inr rfl)).trans a1, hx, a3, a4.fr ((I3 2 1 (by omega)).trans (I1 2 1 (by omega) (by omega) (by omega) (by omega))) (n3 3 (by omega)).1 (n3 3 (by omega)).2, a5.fr ((I3 x 1 (by omega)).trans (I1 x 1 (by omega) (by omega) (by omega) (by omega))) nx.1 nx.2, by rw [(n3 3 (by omega)).1]; exact a6, by rw [(n3 68 (by omega)).1]; exact a7, by rw [(n3 70 (by omega)).1]; exact a8, by rw [(n3 68 (by omega)).1]; exact a9, by rw [(n3 70 (by omega)).1]; exact a10, a11⟩, gf.trans hF, c, by omega, Po.tz' po po2⟩, fun z hz => ?_⟩
    have k2 := F_210_ok (d := 3) hg (show gR (st_E σ1 187 0 v.toInt64) 66 9 = g from (R1 66 9 (Or.inr rfl)).trans q9) F2
    cases b with
    | none => exact lh_5_0 (d := 14) (hs := hF) (hn := hn) (hL := hL) (c_1 := law_c hn hL) (c_2 := hk) (lw_5 (b := none) h87 h87' g00 g0 e1 k2 (lq_2 (d := 14) hz))
    | some p => exact lh_5_1 (d := 14) (hs := hF) (hn := hn) (hL := hL) (c_1 := law_c hn hL) (c_2 := hk) (lw_5 (b := some p) h87 h87' g00 g0 e1 k2 (lq_2 (d := 14) hz))
  cases hxe : xex l w X tg with
  | inl e =>
    have kr' := kr
    rw [hxe] at Z kr'
    obtain ⟨-, σ2, z1, z2, z3, z4, z5⟩ := Z
    obtain ⟨y1, y2, y3, y4, y5⟩ := kr'
    have ev : v = nI e.1 := hv.symm.trans y1
    refine fin σ2 (by rw [z1, ev]) z5 (z3.trans y2.symm) (z2.trans y3.symm) (z4.trans y5.symm) (fun ks2 rs2 kr2 => ?_)
    rw [hxe] at kr2
    obtain ⟨-, -, -, b4, b5⟩ := kr2
    exact none_g ks2.2.2.2 rs2.2.2.1 rs2.2.2.2 b5 (V := 0) b4 (by decide)
  | inr G' =>
    have kr' := kr
    rw [hxe] at Z kr'
    obtain ⟨σ2, z1, z2, z3, z4, z5, z6⟩ := Z
    obtain ⟨y1, y2, y3, y4, y5⟩ := kr'
    have ev : v = 0 := hv.symm.trans y1
    refine fin σ2 (by rw [z1, ev]) z4 (z3.trans y2.symm) (z2.trans y3.symm) (z5.1.1.trans y4.1.2.1.symm) (fun ks2 rs2 kr2 => ?_)
    rw [hxe] at kr2
    have r9 : gR σ2 66 9 = g := (z4.2.2.2.1.2.2.1 66 9 (by simp)).trans ((Rr 66 9).trans ((R1 66 9 (Or.inr rfl)).trans q9))
    have i12 : gI σ2 g 12 = nI (cnt X.1 3) := z4.1.2.2.2.2.2.2.1.2.1
    refine same_g ks2.2.2.2 rs2.2.2.1 kr2.2.2.2.1 z5 z6 tx.2.2.1.2.2.1.2.2 ?_
    rcases hg with e | e
    · exact Or.inl ⟨r9.trans e, by rw [← e]; exact i12⟩
    · exact Or.inr ⟨r9.trans e, by rw [← e]; exact i12⟩
theorem skx_0 {L : Nat} {xs : Nat → Int32} {o : Nat} (h : gI (s0 L xs) o 1 = 0) (hn : gN (s0 L xs) (o + 1) = 16) : Skx (s0 L xs) o := ⟨[], ⟨h, Nat.zero_le _, by rw [hn]; exact Nat.le_refl _, fun j hj => absurd hj (Nat.not_lt_zero j)⟩, by rw [hn]; decide⟩
theorem rz_0 {L : Nat} {xs : Nat → Int32} {g : Nat} (hg : g = 79 ∨ g = 115) : RZ (s0 L xs) g := by
  have b16 : ∀ {k : Nat}, k = 16 → 16 ≤ k ∧ k ≤ 40000 := fun {k} e => by omega
  rcases hg with rfl | rfl
  · refine ⟨fun o ho => ?_, fun o ho => ?_, fun a p q => ?_, fun a p q => ?_, fun a p q => ?_, fun a p q => ?_, rfl, rfl, rfl, rfl, rfl, rfl⟩
    · simp only [List.mem_cons, List.not_mem_nil, or_false] at ho
      rcases ho with rfl | rfl | rfl | rfl | rfl | rfl | rfl <;> exact skx_0 rfl rfl
    · simp only [List.mem_cons, List.not_mem_nil, or_false] at ho
      rcases ho with rfl | rfl | rfl | rfl | rfl | rfl | rfl | rfl | rfl <;> exact b16 rfl
    · have : a = 92 ∨ a = 93 ∨ a = 94 ∨ a = 95 ∨ a = 96 := by omega
      rcases this with rfl | rfl | rfl | rfl | rfl <;> rfl
    · have : a = 97 ∨ a = 98 ∨ a = 99 ∨ a = 100 := by omega
      rcases this with rfl | rfl | rfl | rfl <;> rfl
    · have : a = 101 ∨ a = 102 ∨ a = 103 ∨ a = 104 := by omega
      rcases this with rfl | rfl | rfl | rfl <;> rfl
    · have : a = 105 ∨ a = 106 ∨ a = 107 ∨ a = 108 := by omega
      rcases this with rfl | rfl | rfl | rfl <;> rfl
  · refine ⟨fun o ho => ?_, fun o ho => ?_, fun a p q => ?_, fun a p q => ?_, fun a p q => ?_, fun a p q => ?_, rfl, rfl, rfl, rfl, rfl, rfl⟩
    · simp only [List.mem_cons, List.not_mem_nil, or_false] at ho
      rcases ho with rfl | rfl | rfl | rfl | rfl | rfl | rfl <;> exact skx_0 rfl rfl
    · simp only [List.mem_cons, List.not_mem_nil, or_false] at ho
      rcases ho with rfl | rfl | rfl | rfl | rfl | rfl | rfl | rfl | rfl <;> exact b16 rfl
    · have : a = 128 ∨ a = 129 ∨ a = 130 ∨ a = 131 ∨ a = 132 := by omega
      rcases this with rfl | rfl | rfl | rfl | rfl <;> rfl
    · have : a = 133 ∨ a = 134 ∨ a = 135 ∨ a = 136 := by omega
      rcases this with rfl | rfl | rfl | rfl <;> rfl
    · have : a = 137 ∨ a = 138 ∨ a = 139 ∨ a = 140 := by omega
      rcases this with rfl | rfl | rfl | rfl <;> rfl
    · have : a = 141 ∨ a = 142 ∨ a = 143 ∨ a = 144 := by omega
      rcases this with rfl | rfl | rfl | rfl <;> rfl
/-- the beginning -/
theorem qq_2 : ∀ L xs, Qq (s0 L xs) := by
  intro L xs
  have le : ∀ {a b : Nat}, a.ble b = true → a ≤ b := fun h => Nat.le_of_ble_eq_true h
  have kl : KLn (s0 L xs) := ⟨rfl, rfl, rfl, rfl, ⟨rfl, rfl, le rfl, le rfl⟩, ⟨rfl, le rfl, le rfl⟩, rfl, rfl, le rfl, le rfl, ⟨rfl, rfl, rfl⟩, rfl, rfl, rfl⟩
  have xl : XLn (s0 L xs) := ⟨rfl, rfl, rfl, rfl, rfl, rfl, rfl, rfl, rfl, rfl, rfl, rfl⟩
  have b3 : ∀ a, a = 176 ∨ a = 178 ∨ a = 180 → 16 ≤ gN (s0 L xs) a ∧ gN (s0 L xs) a ≤ 40000 := fun a z => by
    rcases z with rfl | rfl | rfl <;> exact ⟨le rfl, le rfl⟩
  have c8 : ∀ {P : Nat → Prop}, P 0 → P 1 → P 2 → P 3 → P 4 → P 5 → P 6 → P 7 → ∀ c, c < 8 → P c := fun {P} p0 p1 p2 p3 p4 p5 p6 p7 c hc => by
    have : c = 0 ∨ c = 1 ∨ c = 2 ∨ c = 3 ∨ c = 4 ∨ c = 5 ∨ c = 6 ∨ c = 7 := by omega
    rcases this with rfl | rfl | rfl | rfl | rfl | rfl | rfl | rfl <;> assumption
  refine ⟨Or.inl ⟨rfl, rfl, rfl, rfl⟩, Or.inl ⟨rfl, rfl⟩, ⟨⟨[], rfl, Nat.zero_le _, fun c hc => ?_, trivial⟩, fun t ht => ?_, ⟨rfl, rfl, rfl, rfl⟩, kl⟩, ⟨fun g hg => rz_0 hg, ⟨⟨le rfl, le rfl⟩, ⟨le rfl, le rfl⟩, ⟨le rfl, le rfl⟩, le rfl, le rfl⟩, xl, b3⟩, ⟨rfl, rfl, rfl, rfl, rfl⟩, none_g kl xl b3 rfl (V := 0) rfl (Nat.zero_le _), fun z => absurd rfl z⟩
  · have : c = 0 ∨ c = 1 ∨ c = 2 ∨ c = 3 ∨ c = 4 := by omega
    rcases this with rfl | rfl | rfl | rfl | rfl <;> rfl
  · rcases ht with rfl | rfl
    · exact ⟨⟨0, 64, by decide, rfl, Nat.zero_le _, Nat.le_refl _, by decide, c8 rfl rfl rfl rfl rfl rfl rfl rfl⟩, rfl, rfl, rfl, rfl, rfl, rfl, rfl, rfl, rfl⟩
    · exact ⟨⟨0, 64, by decide, rfl, Nat.zero_le _, Nat.le_refl _, by decide, c8 rfl rfl rfl rfl rfl rfl rfl rfl⟩, rfl, rfl, rfl, rfl, rfl, rfl, rfl, rfl, rfl⟩
end TU6
