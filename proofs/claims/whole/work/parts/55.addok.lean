/-! Numbers.add, as a list. Written out of wip/prog/addok.tmpl -/
theorem gw_F (σ : st_S) (b n m : Nat) : gF (st_gw σ b n m) 0 = gF σ 0 := by
  show va_up (va_up (gF σ) (gC σ + 1 + 187) (.inl (0, m, .inl fun j => if j < n then gE σ b j else 0))) (gC σ + 1 + 187) (.inl (0, gN σ b, .inl (gE σ b))) 0 = gF σ 0
  rw [va_up_ne _ _ (show (0 : Nat) ≠ gC σ + 1 + 187 by omega), va_up_ne _ _ (show (0 : Nat) ≠ gC σ + 1 + 187 by omega)]
set_option maxHeartbeats 4000000 in
/-- Numbers.add: one more -/
theorem add_ok_67 {d : Nat} {σ : st_S} {l : List Int32} {v : Int32} (h : Nu σ 67 68 l) (hb : gN σ 68 ≤ 40000) (hq : gC σ + 188 < vz_M0) : ∃ σ', vz_ev P0 (d + 1) 133 0 (lv_args 0 [.ref 67, .int v]) [] (hp σ) (.inl none, hp σ') ∧ Nu σ' 67 68 (l ++ [v]) ∧ Fr 0 [(67, 1)] [] [] [68] [] σ σ' ∧ gN σ' 68 ≤ max (gN σ 68) (2 * l.length) ∧ gC σ' ≤ gC σ + 1 := by
  obtain ⟨h1, h2, h3, h4⟩ := h
  have hlen : (l ++ [v]).length = l.length + 1 := by rw [List.length_append]; rfl
  by_cases hlt : l.length < gN σ 68
  · refine ⟨_, add_n_67 (n := l.length) (m := gN σ 68) (hm := by omega) (h := hlt) (hi_67_1 := h1) (hn_68 := rfl), ⟨?_, ?_, h3, ?_⟩, Fr.t0 (Fr.e σ l.length v (by decide)) (Fr.i _ _ (by decide)), ?_, ?_⟩
    · rw [hlen]
      exact st_i_s _ 67 1 _
    · rw [hlen]
      exact hlt
    · intro j hj
      show st_u (gE σ) 68 l.length v 68 j = (l ++ [v])[j]
      by_cases e : j = l.length
      · subst e
        rw [st_u_s, List.getElem_append_right (Nat.le_refl _)]
        simp
      · have hj2 : j < l.length := by omega
        rw [st_u_k _ _ _ _ e, List.getElem_append_left hj2]
        exact h4 j hj2
    · show gN σ 68 ≤ _
      omega
    · show gC σ ≤ gC σ + 1
      omega
  · have hn : gN σ 68 = l.length := by omega
    have h16 : 16 ≤ l.length := by omega
    refine ⟨_, add_g_67 (n := l.length) (h0 := by omega) (hm := by omega) (hq := hq) (hi_67_1 := h1) (hn_68 := hn), ⟨?_, ?_, ?_, ?_⟩, ?_, ?_, ?_⟩
    · rw [hlen]
      exact st_i_s _ 67 1 _
    · rw [hlen]
      show l.length + 1 ≤ 2 * l.length
      omega
    · show 16 ≤ 2 * l.length
      omega
    · intro j hj
      show st_u (va_up (gE σ) 68 (fun j => if j < l.length then gE σ 68 j else 0)) 68 l.length v 68 j = (l ++ [v])[j]
      by_cases e : j = l.length
      · subst e
        rw [st_u_s, List.getElem_append_right (Nat.le_refl _)]
        simp
      · have hj2 : j < l.length := by omega
        rw [st_u_k _ _ _ _ e, va_up_self, if_pos hj2, List.getElem_append_left hj2]
        exact h4 j hj2
    · have hN : ∀ a, a ≠ 68 → va_up (gN σ) 68 (2 * l.length) a = gN σ a := fun a ha => va_up_ne _ _ ha
      refine ⟨fun a k q => ?_, fun _ _ _ => rfl, fun _ _ _ => rfl, fun a q => ⟨?_, ?_⟩, fun _ _ => rfl, ?_, ?_⟩
      · show st_u (gI σ) 67 1 _ a k = gI σ a k
        by_cases e : a = 67
        · by_cases e2 : k = 1
          · subst e e2; exact absurd List.mem_cons_self q
          · exact st_u_k _ _ _ _ e2
        · exact st_u_a _ _ _ _ e
      · exact hN a fun e => q (e ▸ List.mem_cons_self)
      · have ha : a ≠ 68 := fun e => q (e ▸ List.mem_cons_self)
        show (fun i => st_u (va_up (gE σ) 68 (fun j => if j < l.length then gE σ 68 j else 0)) 68 l.length v a i) = gE σ a
        funext i
        rw [st_u_a _ _ _ _ ha, va_up_ne _ _ ha]
      · exact gw_F σ 68 l.length (2 * l.length)
      · have hN' : ∀ a, a ≠ 68 → gN (st_i (st_e (st_gw σ 68 l.length (2 * l.length)) 68 l.length v) 67 1 (nI (l.length + 1))) a = gN σ a := by
          intro a ha
          show va_up (gN σ) 68 (2 * l.length) a = gN σ a
          exact hN a ha
        have e := Ph_one (σ := σ) (σ' := st_i (st_e (st_gw σ 68 l.length (2 * l.length)) 68 l.length v) 67 1 (nI (l.length + 1))) (b := 68) hN' (by decide)
        have e2 : gN (st_i (st_e (st_gw σ 68 l.length (2 * l.length)) 68 l.length v) 67 1 (nI (l.length + 1))) 68 = 2 * l.length := by
          show va_up (gN σ) 68 (2 * l.length) 68 = 2 * l.length
          exact va_up_self _ _ _
        rw [e2, hn] at e
        exact Po_gw (B := gB σ) (A := gA σ) (C := gC σ) (P := Ph σ) (P' := Ph (st_i (st_e (st_gw σ 68 l.length (2 * l.length)) 68 l.length v) 67 1 (nI (l.length + 1)))) e h16
    · show 2 * l.length ≤ _
      omega
    · show gC σ + 1 ≤ gC σ + 1
      exact Nat.le_refl _
set_option maxHeartbeats 4000000 in
/-- Numbers.add: one more -/
theorem add_ok_69 {d : Nat} {σ : st_S} {l : List Int32} {v : Int32} (h : Nu σ 69 70 l) (hb : gN σ 70 ≤ 40000) (hq : gC σ + 188 < vz_M0) : ∃ σ', vz_ev P0 (d + 1) 133 0 (lv_args 0 [.ref 69, .int v]) [] (hp σ) (.inl none, hp σ') ∧ Nu σ' 69 70 (l ++ [v]) ∧ Fr 0 [(69, 1)] [] [] [70] [] σ σ' ∧ gN σ' 70 ≤ max (gN σ 70) (2 * l.length) ∧ gC σ' ≤ gC σ + 1 := by
  obtain ⟨h1, h2, h3, h4⟩ := h
  have hlen : (l ++ [v]).length = l.length + 1 := by rw [List.length_append]; rfl
  by_cases hlt : l.length < gN σ 70
  · refine ⟨_, add_n_69 (n := l.length) (m := gN σ 70) (hm := by omega) (h := hlt) (hi_69_1 := h1) (hn_70 := rfl), ⟨?_, ?_, h3, ?_⟩, Fr.t0 (Fr.e σ l.length v (by decide)) (Fr.i _ _ (by decide)), ?_, ?_⟩
    · rw [hlen]
      exact st_i_s _ 69 1 _
    · rw [hlen]
      exact hlt
    · intro j hj
      show st_u (gE σ) 70 l.length v 70 j = (l ++ [v])[j]
      by_cases e : j = l.length
      · subst e
        rw [st_u_s, List.getElem_append_right (Nat.le_refl _)]
        simp
      · have hj2 : j < l.length := by omega
        rw [st_u_k _ _ _ _ e, List.getElem_append_left hj2]
        exact h4 j hj2
    · show gN σ 70 ≤ _
      omega
    · show gC σ ≤ gC σ + 1
      omega
  · have hn : gN σ 70 = l.length := by omega
    have h16 : 16 ≤ l.length := by omega
    refine ⟨_, add_g_69 (n := l.length) (h0 := by omega) (hm := by omega) (hq := hq) (hi_69_1 := h1) (hn_70 := hn), ⟨?_, ?_, ?_, ?_⟩, ?_, ?_, ?_⟩
    · rw [hlen]
      exact st_i_s _ 69 1 _
    · rw [hlen]
      show l.length + 1 ≤ 2 * l.length
      omega
    · show 16 ≤ 2 * l.length
      omega
    · intro j hj
      show st_u (va_up (gE σ) 70 (fun j => if j < l.length then gE σ 70 j else 0)) 70 l.length v 70 j = (l ++ [v])[j]
      by_cases e : j = l.length
      · subst e
        rw [st_u_s, List.getElem_append_right (Nat.le_refl _)]
        simp
      · have hj2 : j < l.length := by omega
        rw [st_u_k _ _ _ _ e, va_up_self, if_pos hj2, List.getElem_append_left hj2]
        exact h4 j hj2
    · have hN : ∀ a, a ≠ 70 → va_up (gN σ) 70 (2 * l.length) a = gN σ a := fun a ha => va_up_ne _ _ ha
      refine ⟨fun a k q => ?_, fun _ _ _ => rfl, fun _ _ _ => rfl, fun a q => ⟨?_, ?_⟩, fun _ _ => rfl, ?_, ?_⟩
      · show st_u (gI σ) 69 1 _ a k = gI σ a k
        by_cases e : a = 69
        · by_cases e2 : k = 1
          · subst e e2; exact absurd List.mem_cons_self q
          · exact st_u_k _ _ _ _ e2
        · exact st_u_a _ _ _ _ e
      · exact hN a fun e => q (e ▸ List.mem_cons_self)
      · have ha : a ≠ 70 := fun e => q (e ▸ List.mem_cons_self)
        show (fun i => st_u (va_up (gE σ) 70 (fun j => if j < l.length then gE σ 70 j else 0)) 70 l.length v a i) = gE σ a
        funext i
        rw [st_u_a _ _ _ _ ha, va_up_ne _ _ ha]
      · exact gw_F σ 70 l.length (2 * l.length)
      · have hN' : ∀ a, a ≠ 70 → gN (st_i (st_e (st_gw σ 70 l.length (2 * l.length)) 70 l.length v) 69 1 (nI (l.length + 1))) a = gN σ a := by
          intro a ha
          show va_up (gN σ) 70 (2 * l.length) a = gN σ a
          exact hN a ha
        have e := Ph_one (σ := σ) (σ' := st_i (st_e (st_gw σ 70 l.length (2 * l.length)) 70 l.length v) 69 1 (nI (l.length + 1))) (b := 70) hN' (by decide)
        have e2 : gN (st_i (st_e (st_gw σ 70 l.length (2 * l.length)) 70 l.length v) 69 1 (nI (l.length + 1))) 70 = 2 * l.length := by
          show va_up (gN σ) 70 (2 * l.length) 70 = 2 * l.length
          exact va_up_self _ _ _
        rw [e2, hn] at e
        exact Po_gw (B := gB σ) (A := gA σ) (C := gC σ) (P := Ph σ) (P' := Ph (st_i (st_e (st_gw σ 70 l.length (2 * l.length)) 70 l.length v) 69 1 (nI (l.length + 1)))) e h16
    · show 2 * l.length ≤ _
      omega
    · show gC σ + 1 ≤ gC σ + 1
      exact Nat.le_refl _
