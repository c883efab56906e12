/-! THE LAW, if each turn goes. Written by wip/prog/gen_steps.py -/
set_option maxHeartbeats 4000000 in
set_option maxRecDepth 100000 in
/-- GameTextLaw.law([I)Z -/
theorem lx_0 {d : Nat} {σ : st_S} {n L : Nat} {xs : Nat → Int32} (hs : gF σ 0 = .inl (0, L, .inl xs)) (c_1 : ((Int32.ofNat L) - 6) < (nI n)) : vz_ev P0 (d + 1) 0 23 ([(4, .int (nI n)), (3, .ref 187), (2, .ref 66), (1, .ref 1), (0, .ref 0)]) [] (hp σ) (.inl (some (.int 1)), hp (σ)) := by
  refine ev_x (i := .iload 4) (len := 2) (p' := 25) (s' := [.int (nI n)]) rfl rfl rfl ?_
  refine ev_x (i := .aload_n 0) (len := 1) (p' := 26) (s' := [.ref 0, .int (nI n)]) rfl rfl rfl ?_
  refine ev_sl (p' := 27) rfl rfl hs rfl ?_
  refine ev_x (i := .bipush 6) (len := 2) (p' := 29) (s' := [.int 6, .int (Int32.ofNat L), .int (nI n)]) rfl rfl rfl ?_
  refine ev_x (i := .isub) (len := 1) (p' := 30) (s' := [.int ((Int32.ofNat L) - 6), .int (nI n)]) rfl rfl rfl ?_
  refine ev_b2 (t := 621) (p' := 621) rfl rfl rfl (if_pos c_1) ?_
  refine ev_x (i := .iconst 1) (len := 1) (p' := 622) (s' := [.int 1]) rfl rfl rfl ?_
  exact ev_iret rfl rfl rfl rfl
set_option maxHeartbeats 4000000 in
set_option maxRecDepth 100000 in
/-- GameTextLaw.law([I)Z -/
theorem lx_1 {d : Nat} {σ : st_S} {x_b x_k : Int32} {n L : Nat} {xs : Nat → Int32} (hs : gF σ 0 = .inl (0, L, .inl xs)) (c_1 : ((Int32.ofNat L) - 6) < (nI n)) : vz_ev P0 (d + 1) 0 23 ([(4, .int (nI n)), (6, .int x_b), (5, .int x_k), (3, .ref 187), (2, .ref 66), (1, .ref 1), (0, .ref 0)]) [] (hp σ) (.inl (some (.int 1)), hp (σ)) := by
  refine ev_x (i := .iload 4) (len := 2) (p' := 25) (s' := [.int (nI n)]) rfl rfl rfl ?_
  refine ev_x (i := .aload_n 0) (len := 1) (p' := 26) (s' := [.ref 0, .int (nI n)]) rfl rfl rfl ?_
  refine ev_sl (p' := 27) rfl rfl hs rfl ?_
  refine ev_x (i := .bipush 6) (len := 2) (p' := 29) (s' := [.int 6, .int (Int32.ofNat L), .int (nI n)]) rfl rfl rfl ?_
  refine ev_x (i := .isub) (len := 1) (p' := 30) (s' := [.int ((Int32.ofNat L) - 6), .int (nI n)]) rfl rfl rfl ?_
  refine ev_b2 (t := 621) (p' := 621) rfl rfl rfl (if_pos c_1) ?_
  refine ev_x (i := .iconst 1) (len := 1) (p' := 622) (s' := [.int 1]) rfl rfl rfl ?_
  exact ev_iret rfl rfl rfl rfl
section LAW
variable {Q : st_S → Prop} {L n c : Nat} {xs : Nat → Int32} {σ σ' : st_S} {b : Option (Int32 × Int32)}
theorem law_x (hn : ¬ n + 6 ≤ L) (hL : L ≤ 3072) (h2 : n ≤ L) : (Int32.ofNat L) - 6 < nI n := by
  by_cases h : 6 ≤ L
  · show nI L - nI 6 < nI n
    rw [pk_sub h]
    exact nI_lt (by omega) (by omega)
  · have e : L = 0 ∨ L = 1 ∨ L = 2 ∨ L = 3 ∨ L = 4 ∨ L = 5 := by omega
    have h0 : (Int32.ofNat L) - 6 < 0 := by
      rcases e with rfl | rfl | rfl | rfl | rfl | rfl <;> decide
    exact Int32.lt_of_lt_of_le h0 (nI_pos' (by omega))
/-- a turn of kind k -/
def Qt (Q : st_S → Prop) (k : Int32) : Prop := ∀ (L : Nat) (xs : Nat → Int32) (n : Nat) (b : Option (Int32 × Int32)) (σ : st_S), Inv Q L xs n σ → gC σ + 500 < vz_M0 → n + 6 ≤ L → L ≤ 3072 → xs n &&& 15 = k → Stq Q L xs n b σ
/-- explore with a text -/
def Qx (Q : st_S → Prop) : Prop := ∀ (L : Nat) (xs : Nat → Int32) (n : Nat) (b : Option (Int32 × Int32)) (σ : st_S), Inv Q L xs n σ → gC σ + 500 < vz_M0 → n + 6 ≤ L → L ≤ 3072 → xs n &&& 15 = 5 → ¬ gI σ 1 7 = 0 → Stq Q L xs n b σ
theorem ph_b {a b c : Nat} (h1 : a ≤ 32768) (h2 : b ≤ 32768) (h3 : c ≤ 32768) : 2900000 + a + b + c ≤ 3000000 := by omega
theorem room_a {B A C P B0 A0 C0 P0' c : Nat} (h1 : B + 2 * P0' + A0 ≤ B0 + 2 * P + A + 6 * c) (h2 : 16 * A + P0' ≤ 16 * A0 + P + 16 * c) (h3 : C + A0 ≤ C0 + A) (hB : B0 = 63523) (hA : A0 = 187) (hC : C0 = 0) (hP : P ≤ 3000000) (hc : c ≤ 512) : A ≤ 600000 ∧ B ≤ 7000000 ∧ C + 500 < 1000000 := ⟨by omega, by omega, by omega⟩
theorem Inv.room (q4 : ∀ σ, Q σ → Ph σ ≤ 2900000 + gN σ 3 + gN σ 68 + gN σ 70) (h : Inv Q L xs n σ) (hn : n ≤ 3072) : gA σ ≤ 600000 ∧ gB σ ≤ 7000000 ∧ gC σ + 500 < vz_M0 := by
  obtain ⟨a1, ⟨t, l, a2⟩, -, c, a4, a5⟩ := h
  have hp := q4 σ a1
  have b1 := a2.2.2.2.2.2.1
  have b2 := a2.2.2.2.2.2.2.1
  have b3 := a2.2.2.2.2.2.2.2.1
  have hP : Ph σ ≤ 3000000 := Nat.le_trans hp (ph_b b1 b2 b3)
  exact room_a (B := gB σ) (A := gA σ) (C := gC σ) (P := Ph σ) (B0 := gB (s0 L xs)) (A0 := gA (s0 L xs)) (C0 := gC (s0 L xs)) (P0' := Ph (s0 L xs)) (c := c) a5.1 a5.2.1 a5.2.2 rfl rfl rfl hP (by omega)
theorem turn (q1 : Qf Q) (q3 : ∀ σ, Q σ → Rp σ ∧ R9 σ ∧ Ri σ) (q4 : ∀ σ, Q σ → Ph σ ≤ 2900000 + gN σ 3 + gN σ 68 + gN σ 70) (t2 : Qt Q 2) (t5 : Qx Q) (t8 : Qt Q 8) (t10 : Qt Q 10) (t11 : Qt Q 11) (t12 : Qt Q 12) (t13 : Qt Q 13) (hi : Inv Q L xs n σ) (hn : n + 6 ≤ L) (hL : L ≤ 3072) : Stq Q L xs n b σ := by
  have hC := (hi.room q4 (by omega)).2.2
  obtain ⟨r1, r9, ri⟩ := q3 σ hi.1
  obtain ⟨j, hj, e⟩ := pk_andE (xs n) (m := 15) 4 (by decide)
  have h : j = 0 ∨ j = 1 ∨ j = 2 ∨ j = 3 ∨ j = 4 ∨ j = 5 ∨ j = 6 ∨ j = 7 ∨ j = 8 ∨ j = 9 ∨ j = 10 ∨ j = 11 ∨ j = 12 ∨ j = 13 ∨ j = 14 ∨ j = 15 := by omega
  rcases h with rfl | rfl | rfl | rfl | rfl | rfl | rfl | rfl | rfl | rfl | rfl | rfl | rfl | rfl | rfl | rfl
  · obtain ⟨t, l, ht⟩ := hi.2.1
    rcases ht.2.1 with rfl | rfl
    · exact stp_0_67 q1 hi hn hL hC ht e
    · exact stp_0_69 q1 hi hn hL hC ht e
  · obtain ⟨t, l, ht⟩ := hi.2.1
    rcases ht.2.1 with rfl | rfl
    · exact stp_1_67 q1 hi hn hL r1 ht e
    · exact stp_1_69 q1 hi hn hL r1 ht e
  · exact t2 L xs n b σ hi hC hn hL e
  · exact stp_3 q1 hi r1 hn hL e
  · exact stp_4 q1 hi hn hL r1 ri e
  · by_cases h5 : gI σ 1 7 = 0
    · exact stp_5n q1 hi hn hL r1 h5 e
    · exact t5 L xs n b σ hi hC hn hL e h5
  · exact stp_6 q1 hi r1 hn hL e
  · exact stp_7 q1 hi r1 hn hL e
  · exact t8 L xs n b σ hi hC hn hL e
  · exact stp_9 q1 hi hn hL r1 r9 e
  · exact t10 L xs n b σ hi hC hn hL e
  · exact t11 L xs n b σ hi hC hn hL e
  · exact t12 L xs n b σ hi hC hn hL e
  · exact t13 L xs n b σ hi hC hn hL e
  · exact stp_14 q1 hi hn hL (by rw [e]; exact Or.inr (by decide))
  · exact stp_14 q1 hi hn hL (by rw [e]; exact Or.inr (by decide))
theorem law_loop (q4 : ∀ σ, Q σ → Ph σ ≤ 2900000 + gN σ 3 + gN σ 68 + gN σ 70) (ht : ∀ (n : Nat) (b : Option (Int32 × Int32)) (σ : st_S), Inv Q L xs n σ → n + 6 ≤ L → Stq Q L xs n b σ) (hL : L ≤ 3072) : ∀ (k n : Nat) (b : Option (Int32 × Int32)) (σ : st_S), L ≤ n + k → n ≤ L → Inv Q L xs n σ → ∃ μ, vz_ev P0 15 0 23 (Sh b n) [] (hp σ) (.inl (some (.int 1)), μ) ∧ μ.2.2.1 ≤ 600000 ∧ μ.2.2.2 ≤ 7000000 := by
  intro k
  induction k using Nat.strongRecOn with
  | ind k ih =>
    intro n b σ hk hn hi
    by_cases h : n + 6 ≤ L
    · obtain ⟨b', σ', h1, h2⟩ := ht n b σ hi h
      obtain ⟨μ, h3, h4⟩ := ih (k - 6) (by omega) (n + 6) b' σ' (by omega) h h1
      exact ⟨μ, h2 _ h3, h4⟩
    · have hr := hi.room q4 (by omega)
      refine ⟨hp σ, ?_, hr.1, hr.2.1⟩
      cases b with
      | none => exact lx_0 (d := 14) (hs := hi.2.2.1) (c_1 := law_x h hL hn)
      | some p => exact lx_1 (d := 14) (hs := hi.2.2.1) (c_1 := law_x h hL hn)
theorem Inv.beg (q2 : ∀ L xs, Q (s0 L xs)) : Inv Q L xs 0 (s0 L xs) := by
  refine ⟨q2 L xs, ⟨67, [], rfl, Or.inl rfl, by decide, ⟨rfl, Nat.zero_le _, Nat.le_refl _, fun j h => absurd h (Nat.not_lt_zero j)⟩, ⟨rfl, Nat.zero_le _, Nat.le_refl _, fun j h => absurd h (Nat.not_lt_zero j)⟩, Nat.le_of_ble_eq_true rfl, Nat.le_of_ble_eq_true rfl, Nat.le_of_ble_eq_true rfl, Nat.le_of_ble_eq_true rfl, Nat.le_of_ble_eq_true rfl, fun c hc => absurd hc (List.not_mem_nil)⟩, rfl, 0, Nat.le_refl _, Po.rf _⟩
/-- what is left of the whole claim: something Q that is kept, and turns for compile, explore, variable, commands, command, branches, branch -/
theorem ends_of (q1 : Qf Q) (q2 : ∀ L xs, Q (s0 L xs)) (q3 : ∀ σ, Q σ → Rp σ ∧ R9 σ ∧ Ri σ) (q4 : ∀ σ, Q σ → Ph σ ≤ 2900000 + gN σ 3 + gN σ 68 + gN σ 70) (t2 : Qt Q 2) (t5 : Qx Q) (t8 : Qt Q 8) (t10 : Qt Q 10) (t11 : Qt Q 11) (t12 : Qt Q 12) (t13 : Qt Q 13) (L : Nat) (xs : Nat → Int32) (hL : L ≤ 3072) : ∃ (n : Nat) (μ : vz_H), vz_run P0 n 15 0 0 [(0, .ref 0)] [] (vs_0 L xs) = some (.inl (some (.int 1)), μ) ∧ μ.2.2.1 ≤ 600000 ∧ μ.2.2.2 ≤ 7000000 := by
  obtain ⟨μ, h1, h2⟩ := law_loop q4 (fun n b σ hi hn => turn q1 q3 q4 t2 t5 t8 t10 t11 t12 t13 hi hn hL) hL L 0 none (s0 L xs) (by omega) (Nat.zero_le _) (Inv.beg q2)
  obtain ⟨m, hm⟩ := law_begin (d := 11) h1
  exact ⟨m, μ, hm, h2⟩
end LAW
