/-! FEED of the reference; both are one. The rows on bits began as kit/laws/BITS.to-paste -/
def bt (x : Int32) (i : Nat) : Bool := x.toBitVec.getLsbD i
theorem b_ext {x y : Int32} (h : ∀ i, i < 32 → bt x i = bt y i) : x = y := Int32.toBitVec_inj.mp (BitVec.eq_of_getLsbD_eq (fun i hi => h i hi))
theorem b_and (x y : Int32) (i : Nat) : bt (x &&& y) i = (bt x i && bt y i) := by unfold bt; rw [Int32.toBitVec_and, BitVec.getLsbD_and]
theorem b_big {x : Int32} {i : Nat} (h : 32 ≤ i) : bt x i = false := BitVec.getLsbD_of_ge _ _ h
theorem b_255 (i : Nat) : bt 255 i = decide (i < 8) := by
  rcases Nat.lt_or_ge i 32 with h | h
  · exact (by decide +kernel : ∀ i, i < 32 → bt 255 i = decide (i < 8)) i h
  · rw [b_big h, decide_eq_false (by omega)]
theorem s_l : ∀ n, n < 32 → ((nI n &&& 31).toBitVec.smod 32).toNat = n := by decide +kernel
theorem s_u : ∀ n, n < 32 → (((nI n).toUInt32 &&& Int32.toUInt32 31).toBitVec % 32).toNat = n := by decide +kernel
theorem b_ushr (n : Nat) (hn : n < 32) (x : Int32) (i : Nat) : bt ((x.toUInt32 >>> ((nI n).toUInt32 &&& Int32.toUInt32 31)).toInt32) i = bt x (n + i) := by
  show (x.toUInt32 >>> ((nI n).toUInt32 &&& Int32.toUInt32 31)).toBitVec.getLsbD i = x.toUInt32.toBitVec.getLsbD (n + i)
  rw [UInt32.toBitVec_shiftRight]
  show (x.toUInt32.toBitVec >>> (((nI n).toUInt32 &&& Int32.toUInt32 31).toBitVec % 32).toNat).getLsbD i = _
  rw [s_u n hn, BitVec.getLsbD_ushiftRight]
theorem b_sshr (n : Nat) (hn : n < 32) (x : Int32) {i : Nat} (hi : i < 32) : bt (x >>> (nI n &&& 31)) i = if n + i < 32 then bt x (n + i) else bt x 31 := by
  unfold bt
  rw [Int32.toBitVec_shiftRight]
  show (x.toBitVec.sshiftRight ((nI n &&& 31).toBitVec.smod 32).toNat).getLsbD i = _
  rw [s_l n hn, BitVec.getLsbD_sshiftRight, BitVec.msb_eq_getLsbD_last]
  simp [hi]
theorem by_eq (n : Nat) (hn : n ≤ 24) (x : Int32) : by_c (nI n) x = by_r (nI n) x := by
  unfold by_c by_r
  refine b_ext fun i hi => ?_
  rw [b_and, b_and, b_255]
  by_cases h : i < 8
  · rw [b_ushr n (by omega), b_sshr n (by omega) x hi, if_pos (by omega)]
  · rw [decide_eq_false h, Bool.and_false, Bool.and_false]
theorem ap4_eq (l : List Int32) (x : Int32) : ap4 by_c l x = ap4 by_r l x := by
  unfold ap4
  rw [show by_c 24 x = by_r 24 x from by_eq 24 (by decide) x, show by_c 16 x = by_r 16 x from by_eq 16 (by decide) x, show by_c 8 x = by_r 8 x from by_eq 8 (by decide) x, show by_c 0 x = by_r 0 x from by_eq 0 (by decide) x]
theorem ap20_eq (l : List Int32) (a b c d e : Int32) : ap20 by_c l a b c d e = ap20 by_r l a b c d e := by
  unfold ap20
  rw [ap4_eq, ap4_eq, ap4_eq, ap4_eq, ap4_eq]
set_option maxHeartbeats 4000000 in
theorem add4_ok_67 {d : Nat} {σ : st_S} {l : List Int32} {x : Int32} (h : Nu σ 67 68 l) (hr : gR σ 66 1 = 67) (hl : l.length + 4 ≤ 16384) (hb : gN σ 68 ≤ 32768) (hq : gC σ + 300 < vz_M0) : ∃ σ', vz_ev P0 (d + 9) 132 0 (lv_args 0 [.ref 66, .int x]) [] (hp σ) (.inl none, hp σ') ∧ Nu σ' 67 68 (ap4 by_r l x) ∧ Fr 0 [(67, 1)] [] [] [68] [] σ σ' ∧ gN σ' 68 ≤ 32768 ∧ gC σ' ≤ gC σ + 4 := by
  obtain ⟨σ1, k1, n1, r1, b1, g1⟩ := add_ok_67 (d := d + 7) (v := by_r 24 x) h (by omega) (by omega)
  have l1 := ln1 l (by_r 24 x)
  obtain ⟨σ2, k2, n2, r2, b2, g2⟩ := add_ok_67 (d := d + 7) (v := by_r 16 x) n1 (by omega) (by omega)
  have l2 := ln1 (l ++ [by_r 24 x]) (by_r 16 x)
  obtain ⟨σ3, k3, n3, r3, b3, g3⟩ := add_ok_67 (d := d + 7) (v := by_r 8 x) n2 (by omega) (by omega)
  have l3 := ln1 ((l ++ [by_r 24 x]) ++ [by_r 16 x]) (by_r 8 x)
  obtain ⟨σ4, k4, n4, r4, b4, g4⟩ := add_ok_67 (d := d + 7) (v := by_r 0 x) n3 (by omega) (by omega)
  have q1 : gR σ1 66 1 = 67 := (r1.2.2.1 66 1 (by decide)).trans hr
  have q2 : gR σ2 66 1 = 67 := (r2.2.2.1 66 1 (by decide)).trans q1
  have q3 : gR σ3 66 1 = 67 := (r3.2.2.1 66 1 (by decide)).trans q2
  exact ⟨σ4, add4_path_67 (hr_66_1 := hr) (hr1_66_1 := q1) (hr2_66_1 := q2) (hr3_66_1 := q3) (k_1 := k1) (k_2 := k2) (k_3 := k3) (k_4 := k4), n4, r1.t0 (r2.t0 (r3.t0 r4)), by omega, by omega⟩
set_option maxHeartbeats 4000000 in
theorem rfeed_ok_67 {d : Nat} {σ : st_S} {l : List Int32} {a b c e f : Int32} (h : Nu σ 67 68 l) (hr : gR σ 66 1 = 67) (hl : l.length + 20 ≤ 16384) (hb : gN σ 68 ≤ 32768) (hq : gC σ + 400 < vz_M0) : ∃ σ', vz_ev P0 (d + 10) 131 0 (lv_args 0 [.ref 66, .int a, .int b, .int c, .int e, .int f]) [] (hp σ) (.inl (some (.int (nI (l.length + 20)))), hp σ') ∧ Nu σ' 67 68 (ap20 by_r l a b c e f) ∧ Fr 0 [(66, 0), (67, 1)] [] [] [68] [] σ σ' ∧ gN σ' 68 ≤ 32768 := by
  have h0 : Nu (st_i σ 66 0 0) 67 68 l := h.fr (show st_u (gI σ) 66 0 0 67 1 = gI σ 67 1 from st_u_a _ _ _ _ (by decide)) rfl rfl
  obtain ⟨σ1, k1, n1, r1, b1, g1⟩ := add4_ok_67 (d := d) (x := a) h0 hr (by omega) hb (show gC σ + 300 < vz_M0 by omega)
  have g1 : gC σ1 ≤ gC σ + 4 := g1
  have q1 : gR σ1 66 1 = 67 := (r1.2.2.1 66 1 (by decide)).trans hr
  obtain ⟨σ2, k2, n2, r2, b2, g2⟩ := add4_ok_67 (d := d) (x := b) n1 q1 (by rw [ap4_len]; omega) b1 (by omega)
  have q2 : gR σ2 66 1 = 67 := (r2.2.2.1 66 1 (by decide)).trans q1
  obtain ⟨σ3, k3, n3, r3, b3, g3⟩ := add4_ok_67 (d := d) (x := c) n2 q2 (by rw [ap4_len, ap4_len]; omega) b2 (by omega)
  have q3 : gR σ3 66 1 = 67 := (r3.2.2.1 66 1 (by decide)).trans q2
  obtain ⟨σ4, k4, n4, r4, b4, g4⟩ := add4_ok_67 (d := d) (x := e) n3 q3 (by rw [ap4_len, ap4_len, ap4_len]; omega) b3 (by omega)
  have q4 : gR σ4 66 1 = 67 := (r4.2.2.1 66 1 (by decide)).trans q3
  obtain ⟨σ5, k5, n5, r5, b5, g5⟩ := add4_ok_67 (d := d) (x := f) n4 q4 (by rw [ap4_len, ap4_len, ap4_len, ap4_len]; omega) b4 (by omega)
  have q5 : gR σ5 66 1 = 67 := (r5.2.2.1 66 1 (by decide)).trans q4
  have m : ∀ {τ τ' : st_S}, Fr 0 [(67, 1)] [] [] [68] [] τ τ' → Fr 0 [(66, 0), (67, 1)] [] [] [68] [] τ τ' := fun h => h.mo (fun x hx => List.mem_cons_of_mem _ hx) (fun _ h => h) (fun _ h => h) (fun _ h => h) (fun _ h => h)
  refine ⟨σ5, ?_, n5, Fr.t0 (Fr.i σ 0 (by decide)) ((m r1).t0 ((m r2).t0 ((m r3).t0 ((m r4).t0 (m r5))))), b5⟩
  have hx := rfeed_path_67 (n := l.length) (hr_66_1 := hr) (hi_67_1 := h.1) (hr5_66_1 := q5) (c_1 := nI_le (b := 16384) hl (by decide)) (k_1 := k1) (k_2 := k2) (k_3 := k3) (k_4 := k4) (k_5 := k5)
  have e6 : gI σ5 67 1 = nI (l.length + 20) := n5.1.trans (congrArg nI (ap20_len by_r l a b c e f))
  exact ev_q (congrArg (fun z => ((.inl (some (Value.int z)) : vz_O), hp σ5)) e6) hx
set_option maxHeartbeats 4000000 in
theorem add4_ok_69 {d : Nat} {σ : st_S} {l : List Int32} {x : Int32} (h : Nu σ 69 70 l) (hr : gR σ 66 1 = 69) (hl : l.length + 4 ≤ 16384) (hb : gN σ 70 ≤ 32768) (hq : gC σ + 300 < vz_M0) : ∃ σ', vz_ev P0 (d + 9) 132 0 (lv_args 0 [.ref 66, .int x]) [] (hp σ) (.inl none, hp σ') ∧ Nu σ' 69 70 (ap4 by_r l x) ∧ Fr 0 [(69, 1)] [] [] [70] [] σ σ' ∧ gN σ' 70 ≤ 32768 ∧ gC σ' ≤ gC σ + 4 := by
  obtain ⟨σ1, k1, n1, r1, b1, g1⟩ := add_ok_69 (d := d + 7) (v := by_r 24 x) h (by omega) (by omega)
  have l1 := ln1 l (by_r 24 x)
  obtain ⟨σ2, k2, n2, r2, b2, g2⟩ := add_ok_69 (d := d + 7) (v := by_r 16 x) n1 (by omega) (by omega)
  have l2 := ln1 (l ++ [by_r 24 x]) (by_r 16 x)
  obtain ⟨σ3, k3, n3, r3, b3, g3⟩ := add_ok_69 (d := d + 7) (v := by_r 8 x) n2 (by omega) (by omega)
  have l3 := ln1 ((l ++ [by_r 24 x]) ++ [by_r 16 x]) (by_r 8 x)
  obtain ⟨σ4, k4, n4, r4, b4, g4⟩ := add_ok_69 (d := d + 7) (v := by_r 0 x) n3 (by omega) (by omega)
  have q1 : gR σ1 66 1 = 69 := (r1.2.2.1 66 1 (by decide)).trans hr
  have q2 : gR σ2 66 1 = 69 := (r2.2.2.1 66 1 (by decide)).trans q1
  have q3 : gR σ3 66 1 = 69 := (r3.2.2.1 66 1 (by decide)).trans q2
  exact ⟨σ4, add4_path_69 (hr_66_1 := hr) (hr1_66_1 := q1) (hr2_66_1 := q2) (hr3_66_1 := q3) (k_1 := k1) (k_2 := k2) (k_3 := k3) (k_4 := k4), n4, r1.t0 (r2.t0 (r3.t0 r4)), by omega, by omega⟩
set_option maxHeartbeats 4000000 in
theorem rfeed_ok_69 {d : Nat} {σ : st_S} {l : List Int32} {a b c e f : Int32} (h : Nu σ 69 70 l) (hr : gR σ 66 1 = 69) (hl : l.length + 20 ≤ 16384) (hb : gN σ 70 ≤ 32768) (hq : gC σ + 400 < vz_M0) : ∃ σ', vz_ev P0 (d + 10) 131 0 (lv_args 0 [.ref 66, .int a, .int b, .int c, .int e, .int f]) [] (hp σ) (.inl (some (.int (nI (l.length + 20)))), hp σ') ∧ Nu σ' 69 70 (ap20 by_r l a b c e f) ∧ Fr 0 [(66, 0), (69, 1)] [] [] [70] [] σ σ' ∧ gN σ' 70 ≤ 32768 := by
  have h0 : Nu (st_i σ 66 0 0) 69 70 l := h.fr (show st_u (gI σ) 66 0 0 69 1 = gI σ 69 1 from st_u_a _ _ _ _ (by decide)) rfl rfl
  obtain ⟨σ1, k1, n1, r1, b1, g1⟩ := add4_ok_69 (d := d) (x := a) h0 hr (by omega) hb (show gC σ + 300 < vz_M0 by omega)
  have g1 : gC σ1 ≤ gC σ + 4 := g1
  have q1 : gR σ1 66 1 = 69 := (r1.2.2.1 66 1 (by decide)).trans hr
  obtain ⟨σ2, k2, n2, r2, b2, g2⟩ := add4_ok_69 (d := d) (x := b) n1 q1 (by rw [ap4_len]; omega) b1 (by omega)
  have q2 : gR σ2 66 1 = 69 := (r2.2.2.1 66 1 (by decide)).trans q1
  obtain ⟨σ3, k3, n3, r3, b3, g3⟩ := add4_ok_69 (d := d) (x := c) n2 q2 (by rw [ap4_len, ap4_len]; omega) b2 (by omega)
  have q3 : gR σ3 66 1 = 69 := (r3.2.2.1 66 1 (by decide)).trans q2
  obtain ⟨σ4, k4, n4, r4, b4, g4⟩ := add4_ok_69 (d := d) (x := e) n3 q3 (by rw [ap4_len, ap4_len, ap4_len]; omega) b3 (by omega)
  have q4 : gR σ4 66 1 = 69 := (r4.2.2.1 66 1 (by decide)).trans q3
  obtain ⟨σ5, k5, n5, r5, b5, g5⟩ := add4_ok_69 (d := d) (x := f) n4 q4 (by rw [ap4_len, ap4_len, ap4_len, ap4_len]; omega) b4 (by omega)
  have q5 : gR σ5 66 1 = 69 := (r5.2.2.1 66 1 (by decide)).trans q4
  have m : ∀ {τ τ' : st_S}, Fr 0 [(69, 1)] [] [] [70] [] τ τ' → Fr 0 [(66, 0), (69, 1)] [] [] [70] [] τ τ' := fun h => h.mo (fun x hx => List.mem_cons_of_mem _ hx) (fun _ h => h) (fun _ h => h) (fun _ h => h) (fun _ h => h)
  refine ⟨σ5, ?_, n5, Fr.t0 (Fr.i σ 0 (by decide)) ((m r1).t0 ((m r2).t0 ((m r3).t0 ((m r4).t0 (m r5))))), b5⟩
  have hx := rfeed_path_69 (n := l.length) (hr_66_1 := hr) (hi_69_1 := h.1) (hr5_66_1 := q5) (c_1 := nI_le (b := 16384) hl (by decide)) (k_1 := k1) (k_2 := k2) (k_3 := k3) (k_4 := k4) (k_5 := k5)
  have e6 : gI σ5 69 1 = nI (l.length + 20) := n5.1.trans (congrArg nI (ap20_len by_r l a b c e f))
  exact ev_q (congrArg (fun z => ((.inl (some (Value.int z)) : vz_O), hp σ5)) e6) hx
