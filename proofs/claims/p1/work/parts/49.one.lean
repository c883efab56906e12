/-! AT MOST ONE CALL: every script of at most 6 ints. Written by wip/prog/gen_p1.py -/
theorem p1_of {L : Nat} {xs : Nat → Int32} {σ' : st_S} (h : vz_ev P0 15 0 23 [(4, .int 0), (3, .ref 187), (2, .ref 66), (1, .ref 1), (0, .ref 0)] [] (hp (s0 L xs)) (.inl (some (.int 1)), hp σ')) (h1 : (hp σ').2.2.1 ≤ 600000) (h2 : (hp σ').2.2.2 ≤ 7000000) : ∃ μ, vz_ev P0 15 0 0 [(0, .ref 0)] [] (vs_0 L xs) (.inl (some (.int 1)), μ) ∧ μ.2.2.1 ≤ 600000 ∧ μ.2.2.2 ≤ 7000000 := ⟨_, law_begin (d := 11) h, h1, h2⟩
theorem p1_short {L : Nat} (xs : Nat → Int32) (hL : L < 6) : ∃ μ, vz_ev P0 15 0 0 [(0, .ref 0)] [] (vs_0 L xs) (.inl (some (.int 1)), μ) ∧ μ.2.2.1 ≤ 600000 ∧ μ.2.2.2 ≤ 7000000 := by
  have c : ((Int32.ofNat L) - 6) < 0 := by
    have h : L = 0 ∨ L = 1 ∨ L = 2 ∨ L = 3 ∨ L = 4 ∨ L = 5 := by omega
    rcases h with rfl | rfl | rfl | rfl | rfl | rfl <;> decide
  exact p1_of (law_short (d := 14) (σ := s0 L xs) (L := L) (xs := xs) (hs := rfl) (c_1 := c)) (Nat.le_of_ble_eq_true rfl) (Nat.le_of_ble_eq_true rfl)
set_option maxHeartbeats 8000000 in
set_option maxRecDepth 100000 in
theorem p1_one (xs : Nat → Int32) : ∃ μ, vz_ev P0 15 0 0 [(0, .ref 0)] [] (vs_0 6 xs) (.inl (some (.int 1)), μ) ∧ μ.2.2.1 ≤ 600000 ∧ μ.2.2.2 ≤ 7000000 := by
  obtain ⟨j, hj, e⟩ := pk_andE (xs 0) (m := 15) 4 (by decide)
  have h : j = 0 ∨ j = 1 ∨ j = 2 ∨ j = 3 ∨ j = 4 ∨ j = 5 ∨ j = 6 ∨ j = 7 ∨ j = 8 ∨ j = 9 ∨ j = 10 ∨ j = 11 ∨ j = 12 ∨ j = 13 ∨ j = 14 ∨ j = 15 := by omega
  rcases h with rfl | rfl | rfl | rfl | rfl | rfl | rfl | rfl | rfl | rfl | rfl | rfl | rfl | rfl | rfl | rfl
  · exact p1_of (law_0 (d := 11) (σ := s0 6 xs) (L := 6) (xs := xs) (hs := rfl) (h6 := Nat.le_refl 6) (hi_2_1 := rfl) (hn_3 := rfl) (hr_66_1 := rfl) (hi_67_1 := rfl) (hn_68 := rfl) (hq := by show 0 + 188 < vz_M0; decide) (c_1 := by decide) (hx := e) (c_2 := by decide)) (Nat.le_of_ble_eq_true rfl) (Nat.le_of_ble_eq_true rfl)
  · by_cases h1 : xs 1 < 0
    · exact p1_of (law_1a (d := 5) (σ := s0 6 xs) (L := 6) (xs := xs) (hs := rfl) (h6 := Nat.le_refl 6)  (c_1 := by decide) (hx := e) (c_2 := h1) (c_3 := by decide)) (Nat.le_of_ble_eq_true rfl) (Nat.le_of_ble_eq_true rfl)
    · by_cases h2 : xs 1 ≤ 20
      · exact p1_of (law_1c (d := 5) (σ := s0 6 xs) (L := 6) (xs := xs) (hs := rfl) (h6 := Nat.le_refl 6) (hi_2_1 := rfl) (hr_66_1 := rfl) (hi_67_1 := rfl) (c_1 := by decide) (hx := e) (c_2 := h1) (c_3 := h2) (c_4 := Int32.not_lt.mpr h2) (c_5 := by decide)) (Nat.le_of_ble_eq_true rfl) (Nat.le_of_ble_eq_true rfl)
      · exact p1_of (law_1b (d := 5) (σ := s0 6 xs) (L := 6) (xs := xs) (hs := rfl) (h6 := Nat.le_refl 6)  (c_1 := by decide) (hx := e) (c_2 := h1) (c_3 := h2) (c_4 := Int32.not_le.mp h2) (c_5 := by decide)) (Nat.le_of_ble_eq_true rfl) (Nat.le_of_ble_eq_true rfl)
  · exact p1_of (law_2 (d := 10) (σ := s0 6 xs) (L := 6) (xs := xs) (hs := rfl) (h6 := Nat.le_refl 6) (hr_1_6 := rfl) (hi_2_1 := rfl) (hn_44 := rfl) (hr_66_2 := rfl) (hr_66_1 := rfl) (hi_67_1 := rfl) (hn_72 := rfl) (hn_74 := rfl) (hn_76 := rfl) (hn_78 := rfl) (hr_66_10 := rfl) (c_1 := by decide) (hx := e) (c_2 := by decide)) (Nat.le_of_ble_eq_true rfl) (Nat.le_of_ble_eq_true rfl)
  · exact p1_of (law_3 (d := 13) (σ := s0 6 xs) (L := 6) (xs := xs) (hs := rfl) (h6 := Nat.le_refl 6) (hi_1_9 := rfl) (hi_66_12 := rfl) (c_1 := by decide) (hx := e) (c_2 := by decide)) (Nat.le_of_ble_eq_true rfl) (Nat.le_of_ble_eq_true rfl)
  · exact p1_of (law_4 (d := 13) (σ := s0 6 xs) (L := 6) (xs := xs) (hs := rfl) (h6 := Nat.le_refl 6) (hi_1_7 := rfl) (hi_66_11 := rfl) (c_1 := by decide) (hx := e) (c_2 := by decide)) (Nat.le_of_ble_eq_true rfl) (Nat.le_of_ble_eq_true rfl)
  · exact p1_of (law_5 (d := 5) (σ := s0 6 xs) (L := 6) (xs := xs) (hs := rfl) (h6 := Nat.le_refl 6) (hi_1_7 := rfl) (hi_66_11 := rfl) (c_1 := by decide) (hx := e) (c_2 := by decide)) (Nat.le_of_ble_eq_true rfl) (Nat.le_of_ble_eq_true rfl)
  · exact p1_of (law_6 (d := 13) (σ := s0 6 xs) (L := 6) (xs := xs) (hs := rfl) (h6 := Nat.le_refl 6) (hi_62_9 := rfl) (hi_66_30 := rfl) (c_1 := by decide) (hx := e) (c_2 := by decide)) (Nat.le_of_ble_eq_true rfl) (Nat.le_of_ble_eq_true rfl)
  · exact p1_of (law_7 (d := 13) (σ := s0 6 xs) (L := 6) (xs := xs) (hs := rfl) (h6 := Nat.le_refl 6) (hi_52_10 := rfl) (hi_66_29 := rfl) (c_1 := by decide) (hx := e) (c_2 := by decide)) (Nat.le_of_ble_eq_true rfl) (Nat.le_of_ble_eq_true rfl)
  · by_cases h1 : xs 1 < 0
    · exact p1_of (law_8a (d := 5) (σ := s0 6 xs) (L := 6) (xs := xs) (hs := rfl) (h6 := Nat.le_refl 6)  (c_1 := by decide) (hx := e) (c_2 := h1) (c_3 := by decide)) (Nat.le_of_ble_eq_true rfl) (Nat.le_of_ble_eq_true rfl)
    · exact p1_of (law_8b (d := 5) (σ := s0 6 xs) (L := 6) (xs := xs) (hs := rfl) (h6 := Nat.le_refl 6) (hi_52_10 := rfl) (hi_66_29 := rfl) (c_1 := by decide) (hx := e) (c_2 := h1) (c_3 := Int32.not_lt.mp h1) (c_4 := by decide)) (Nat.le_of_ble_eq_true rfl) (Nat.le_of_ble_eq_true rfl)
  · by_cases h1 : xs 1 < 0
    · exact p1_of (law_9a (d := 12) (σ := s0 6 xs) (L := 6) (xs := xs) (hs := rfl) (h6 := Nat.le_refl 6)  (c_1 := by decide) (hx := e) (c_2 := h1) (c_3 := by decide)) (Nat.le_of_ble_eq_true rfl) (Nat.le_of_ble_eq_true rfl)
    · exact p1_of (law_9b (d := 12) (σ := s0 6 xs) (L := 6) (xs := xs) (hs := rfl) (h6 := Nat.le_refl 6) (hi_52_10 := rfl) (hi_66_29 := rfl) (c_1 := by decide) (hx := e) (c_2 := h1) (c_3 := Int32.not_lt.mp h1) (c_4 := by decide)) (Nat.le_of_ble_eq_true rfl) (Nat.le_of_ble_eq_true rfl)
  · by_cases h1 : xs 1 < 0
    · exact p1_of (law_10a (d := 12) (σ := s0 6 xs) (L := 6) (xs := xs) (hs := rfl) (h6 := Nat.le_refl 6)  (c_1 := by decide) (hx := e) (c_2 := h1) (c_3 := by decide)) (Nat.le_of_ble_eq_true rfl) (Nat.le_of_ble_eq_true rfl)
    · exact p1_of (law_10b (d := 12) (σ := s0 6 xs) (L := 6) (xs := xs) (hs := rfl) (h6 := Nat.le_refl 6) (hi_52_10 := rfl) (hi_66_29 := rfl) (c_1 := by decide) (hx := e) (c_2 := h1) (c_3 := Int32.not_lt.mp h1) (c_4 := by decide)) (Nat.le_of_ble_eq_true rfl) (Nat.le_of_ble_eq_true rfl)
  · by_cases h1 : xs 1 < 0
    · exact p1_of (law_11a (d := 11) (σ := s0 6 xs) (L := 6) (xs := xs) (hs := rfl) (h6 := Nat.le_refl 6)  (c_1 := by decide) (hx := e) (c_2 := h1) (c_3 := by decide)) (Nat.le_of_ble_eq_true rfl) (Nat.le_of_ble_eq_true rfl)
    · exact p1_of (law_11b (d := 11) (σ := s0 6 xs) (L := 6) (xs := xs) (hs := rfl) (h6 := Nat.le_refl 6) (hi_52_10 := rfl) (hi_66_29 := rfl) (c_1 := by decide) (hx := e) (c_2 := h1) (c_3 := Int32.not_lt.mp h1) (c_4 := by decide)) (Nat.le_of_ble_eq_true rfl) (Nat.le_of_ble_eq_true rfl)
  · by_cases h1 : xs 1 < 0
    · exact p1_of (law_12a (d := 11) (σ := s0 6 xs) (L := 6) (xs := xs) (hs := rfl) (h6 := Nat.le_refl 6)  (c_1 := by decide) (hx := e) (c_2 := h1) (c_3 := by decide)) (Nat.le_of_ble_eq_true rfl) (Nat.le_of_ble_eq_true rfl)
    · exact p1_of (law_12b (d := 11) (σ := s0 6 xs) (L := 6) (xs := xs) (hs := rfl) (h6 := Nat.le_refl 6) (hi_52_10 := rfl) (hi_66_29 := rfl) (c_1 := by decide) (hx := e) (c_2 := h1) (c_3 := Int32.not_lt.mp h1) (c_4 := by decide)) (Nat.le_of_ble_eq_true rfl) (Nat.le_of_ble_eq_true rfl)
  · by_cases h1 : xs 1 < 0
    · exact p1_of (law_13a (d := 10) (σ := s0 6 xs) (L := 6) (xs := xs) (hs := rfl) (h6 := Nat.le_refl 6)  (c_1 := by decide) (hx := e) (c_2 := h1) (c_3 := by decide)) (Nat.le_of_ble_eq_true rfl) (Nat.le_of_ble_eq_true rfl)
    · exact p1_of (law_13b (d := 10) (σ := s0 6 xs) (L := 6) (xs := xs) (hs := rfl) (h6 := Nat.le_refl 6) (hi_52_10 := rfl) (hi_66_29 := rfl) (c_1 := by decide) (hx := e) (c_2 := h1) (c_3 := Int32.not_lt.mp h1) (c_4 := by decide)) (Nat.le_of_ble_eq_true rfl) (Nat.le_of_ble_eq_true rfl)
  · exact p1_of (law_14 (d := 14) (σ := s0 6 xs) (L := 6) (xs := xs) (hs := rfl) (h6 := Nat.le_refl 6)  (c_1 := by decide) (hx := e) (c_2 := by decide)) (Nat.le_of_ble_eq_true rfl) (Nat.le_of_ble_eq_true rfl)
  · exact p1_of (law_15 (d := 14) (σ := s0 6 xs) (L := 6) (xs := xs) (hs := rfl) (h6 := Nat.le_refl 6)  (c_1 := by decide) (hx := e) (c_2 := by decide)) (Nat.le_of_ble_eq_true rfl) (Nat.le_of_ble_eq_true rfl)
theorem p1_ends (L : Nat) (xs : Nat → Int32) (hL : L ≤ 6) : ∃ (n : Nat) (μ : vz_H), vz_run P0 n 15 0 0 [(0, .ref 0)] [] (vs_0 L xs) = some (.inl (some (.int 1)), μ) ∧ μ.2.2.1 ≤ 600000 ∧ μ.2.2.2 ≤ 7000000 := by
  by_cases h : L < 6
  · obtain ⟨μ, ⟨n, hn⟩, h2⟩ := p1_short xs h
    exact ⟨n, μ, hn, h2⟩
  · have e : L = 6 := by omega
    subst e
    obtain ⟨μ, ⟨n, hn⟩, h2⟩ := p1_one xs
    exact ⟨n, μ, hn, h2⟩
