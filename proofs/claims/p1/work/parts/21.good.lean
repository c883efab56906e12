theorem tb_out {α : Type} {l : List α} {y : Nat} {q : α} (sel : tb_E → List α) (h0 : sel tb_0 = []) (hl : sel (tb_at y) = l) (h : q ∈ l) : tb_at y ∈ tb_all := by
  rcases tb_at_or y with h1 | h1
  · exact h1
  · rw [← hl, h1, h0] at h
    cases h
theorem tg_I : vz_gI P0 := by
  intro y pc q h
  have hm := vz_lk_mem (show vz_lk (tb_at y).2.1 pc = some q from h)
  exact tk_allI _ (tb_out (fun e => e.2.1) rfl rfl hm) (pc, q) hm
theorem tg_F : vz_gF P0 tb_cl tb_T tb_N := by
  intro y ix t h
  have hm := vz_lk_mem (show vz_lk (tb_at y).2.2.1 ix = some t from h)
  obtain ⟨ps, hp⟩ := tk_allF _ (tb_out (fun e => e.2.2.1) rfl rfl hm)
  have h2 := List.all_eq_true.mp hp (ix, t) hm
  unfold tk_G at h2
  dsimp only at h2
  split at h2
  · next c hc =>
    simp only [Bool.and_eq_true, Bool.or_eq_true, decide_eq_true_eq] at h2
    obtain ⟨a1, a2, a3, a4⟩ := h2
    obtain ⟨k1, ⟨ty0, k2⟩, k3⟩ := tk_cl c (List.mem_of_getElem? hc)
    refine ⟨c.1, c.2.1, c.2.2, ty0, hc, a1, k1, k2, k3, a2, a3, ?_⟩
    have hno : t.2.2.2 = true → vz_ini P0 y = true → t.1 = vz_ci P0 y → (!(t.2.2.2 && decide ((bif (tb_at y).1.2.2.1 then some (tb_at y).1.2.1 else none) = some t.1))) = true → False := by
      intro e1 e2 e3 e4
      have e2 : (tb_at y).1.2.2.1 = true := e2
      have e3 : t.1 = (tb_at y).1.2.1 := e3
      rw [e1, e2, e3] at e4
      simp at e4
    rcases a4 with ⟨b1, b2⟩ | ⟨b1, b2⟩
    · exact Or.inl ⟨tb_w_of b1, fun e1 e2 e3 => b2.resolve_left fun b3 => hno e1 e2 e3 b3⟩
    · refine Or.inr ⟨fun e1 e2 e3 => hno e1 e2 e3 b1, ?_⟩
      · rcases b2 with b2 | b2
        · exact ⟨_, tb_wn_of b2⟩
        · exact ⟨_, tb_wn_of b2⟩
  · cases h2
theorem tg_N : vz_gN P0 tb_cl tb_T := by
  intro y ix t h
  have hm := vz_lk_mem (show vz_lk (tb_at y).2.2.2.2.1 ix = some t from h)
  obtain ⟨ps, hp⟩ := tk_allN _ (tb_out (fun e => e.2.2.2.2.1) rfl rfl hm)
  have h2 := List.all_eq_true.mp hp (ix, t) hm
  unfold tk_N at h2
  dsimp only at h2
  split at h2
  · next c p hc hl =>
    simp only [Bool.and_eq_true, decide_eq_true_eq] at h2
    obtain ⟨a1, a2, a3, a4, a5, a6⟩ := h2
    obtain ⟨k1, ⟨ty0, k2⟩, k3⟩ := tk_cl c (List.mem_of_getElem? hc)
    refine ⟨c.1, c.2.1, c.2.2, ty0, hc, k1, k2, tb_w_of a1, tb_w_of a2, tb_w_of a3, a4, fun j hj => ?_, fun v hv a e => ?_⟩
    · have h9 := List.all_eq_true.mp a5 j (List.mem_range.mpr hj)
      have h9 := of_decide_eq_true h9
      rw [k2 j hj] at h9
      exact Option.some.inj h9
    · have h9 := List.all_eq_true.mp a6 v hv
      rw [e] at h9
      cases h9
  · cases h2
theorem tg_K : vz_gK P0 tb_T := by
  intro y ix v h
  have hm := vz_lk_mem (show vz_lk (tb_at y).2.2.2.2.2.1 ix = some v from h)
  obtain ⟨ps, hp⟩ := tk_allK _ (tb_out (fun e => e.2.2.2.2.2.1) rfl rfl hm)
  have h2 := List.all_eq_true.mp hp (ix, v) hm
  refine ⟨fun x e => ?_, fun x e => ?_⟩
  · subst e
    exact tb_w_of (p := (vz_lk ps ix).getD 0) h2
  · subst e
    exact tb_w_of (p := (vz_lk ps ix).getD 0) h2
theorem tg_A : vz_gA tb_T := ⟨tb_w_of (p := 73) (by decide +kernel), tb_w_of (p := 1359) (by decide +kernel), tb_w_of (p := 1358) (by decide +kernel)⟩
theorem tg_M : vz_gM P0 tb_T := by
  refine ⟨fun y => ?_, fun w hw => (List.mem_filter.mp hw).2⟩
  show (tb_at y).1.2.2.2.2.1 ≤ 23 ∧ plainFor (tb_at y).1.2.2.2.2.2.2 = true ∧ ((tb_at y).1.2.2.1 = true → (tb_at y).1.2.2.2.2.2.2.name = "<init>") ∧ (tb_at y).1.2.2.2.2.2.2.cls = (tb_at y).1.1
  rcases tb_at_or y with h1 | h1
  · exact tk_gm _ h1
  · rw [h1]
    decide +kernel
theorem tk_hd0 : ∀ q ∈ tk_calls, (vz_lk tb_hd q.1).getD [] = [] := by decide +kernel
theorem tg_C : vz_gC P0 tb_cl tb_T tb_N := by
  intro y ix k y' n h hk
  have hm := vz_lk_mem (show vz_lk (tb_at y).2.2.2.1 ix = some (k, y', n) from h)
  have hin := tb_out (fun e => e.2.2.2.1) rfl rfl hm
  have hc := tk_cin _ hin _ hm hk
  dsimp only at hc
  obtain ⟨p, hM⟩ := tk_allM _ hc
  obtain ⟨pd, hD⟩ := tk_allD _ hc
  obtain ⟨ps, hL⟩ := tk_allL _ hin
  have hL := List.all_eq_true.mp hL _ hm
  unfold tk_M at hM
  dsimp only at hM hD
  simp only [Bool.and_eq_true, decide_eq_true_eq] at hM
  obtain ⟨m1, m2, m3, m4⟩ := hM
  have hcode : Cond.code (vz_mn P0 y') (vz_bc P0 y') (vz_ml P0 y') (vz_rt P0 y') ∈ tb_T := tb_in hD rfl
  have hlink : Cond.methodLink (vz_own P0 y) ix (vz_mn P0 y') ∈ tb_T ∨ ∃ host, Cond.methodLinkNest (vz_own P0 y) ix (vz_mn P0 y') host ∈ tb_N := by
    have hL2 : (tb_w ((vz_lk ps ix).getD 0) (.methodLink (tb_at y).1.1 ix (tb_at y').1.2.2.2.2.2.2) || (tb_wn ((vz_lk ps ix).getD 0) (.methodLinkNest (tb_at y).1.1 ix (tb_at y').1.2.2.2.2.2.2 "GameText") || tb_wn ((vz_lk ps ix).getD 0) (.methodLinkNest (tb_at y).1.1 ix (tb_at y').1.2.2.2.2.2.2 "GameTextModel"))) = true := by
      unfold tk_L at hL
      dsimp only at hL
      match k, hk, hL with
      | 0, _, hL => exact hL
      | 1, _, hL => exact hL
      | 2, _, hL => exact hL
    simp only [Bool.or_eq_true] at hL2
    rcases hL2 with h1 | h1 | h1
    · exact Or.inl (tb_w_of h1)
    · exact Or.inr ⟨_, tb_wn_of h1⟩
    · exact Or.inr ⟨_, tb_wn_of h1⟩
  refine ⟨⟨hcode, tk_hd0 _ hc⟩, tb_w_of m1, m2, m3, hlink, fun e => ?_, fun e => ?_, fun e => ?_⟩
  · subst e
    exact tb_w_of m4
  · subst e
    simp only [Bool.and_eq_true, decide_eq_true_eq] at m4
    obtain ⟨n1, n2, n3⟩ := m4
    refine ⟨tb_w_of n1, ?_, ?_⟩
    · cases hb : p.2.2.2 with
      | true =>
        rw [hb] at n2
        have n2 := Bool.and_eq_true_iff.mp (show (_ && _) = true from n2)
        have n4 := of_decide_eq_true n2.1
        cases hp : lw_privs[p.2.2.1]? with
        | none => rw [hp] at n4; cases n4
        | some z =>
          rw [hp] at n4
          have n4 : z.1 = (tb_at y').1.2.2.2.2.2.2 := Option.some.inj n4
          have n5 := tb_inS hp (by rw [n4]; exact n2.2)
          rw [n4] at n5
          exact n5
      | false =>
        rw [hb] at n2
        exact tb_w_of (show tb_w _ _ = true from n2)
    · show ∃ T N, tb_cl[(tb_at y').1.2.1]? = some ((tb_at y').1.2.2.2.2.2.2.cls, T, N)
      cases hq : tb_cl[(tb_at y').1.2.1]? with
      | none => rw [hq] at n3; cases n3
      | some z =>
        rw [hq] at n3
        have n3 : z.1 = (tb_at y').1.2.2.2.2.2.2.cls := Option.some.inj n3
        exact ⟨z.2.1, z.2.2, by rw [← n3]⟩
  · subst e
    simp only [Bool.and_eq_true, decide_eq_true_eq] at m4
    exact ⟨m4.2.1, m4.2.2, tb_w_of m4.1⟩
theorem tg_oi : Cond.code Lib.objectInit ⟨#[0xb1]⟩ 1 none ∈ tb_T := tb_in (p := 35) rfl rfl
theorem tg_O : vz_gO P0 tb_T := by
  intro y ix y' n h
  have hm := vz_lk_mem (show vz_lk (tb_at y).2.2.2.1 ix = some (3, y', n) from h)
  obtain ⟨ps, hL⟩ := tk_allL _ (tb_out (fun e => e.2.2.2.1) rfl rfl hm)
  have hL := List.all_eq_true.mp hL _ hm
  exact ⟨tb_w_of (show tb_w ((vz_lk ps ix).getD 0) (.methodLink (tb_at y).1.1 ix Lib.objectInit) = true from hL), tb_w_of (p := 34) (by decide +kernel), tg_oi⟩
theorem tg_Y : vz_gY P0 tb_T := by
  intro y ix y' n h
  have hm := vz_lk_mem (show vz_lk (tb_at y).2.2.2.1 ix = some (5, y', n) from h)
  obtain ⟨ps, hL⟩ := tk_allL _ (tb_out (fun e => e.2.2.2.1) rfl rfl hm)
  have hL := List.all_eq_true.mp hL _ hm
  exact ⟨tb_w_of (show tb_w ((vz_lk ps ix).getD 0) (.methodLink (tb_at y).1.1 ix arraycopyName) = true from hL), tb_w_of (p := 533) (by decide +kernel), tb_w_of (p := 532) (by decide +kernel), tb_w_of (p := 16) (by decide +kernel)⟩
theorem tg_G : vz_gG P0 := by
  intro o j k h
  have h : (bif Nat.blt j 100 then vz_lk [(200, 3), (500, 6), (501, 7), (502, 8), (503, 9), (504, 10), (505, 11), (506, 12), (507, 13), (2100, 22), (2101, 23), (2102, 24), (2103, 25), (2104, 26), (2105, 27), (2106, 28), (2107, 29), (5201, 54), (5202, 55), (5203, 56), (5204, 57), (5205, 58), (5206, 59), (5207, 60), (5208, 61), (6700, 68), (6900, 70), (7100, 72), (7300, 74), (7500, 76), (7700, 78), (8000, 81), (8200, 83), (8400, 85), (8600, 87), (8800, 89), (9000, 91), (10900, 110), (11100, 112), (11300, 114), (11600, 117), (11800, 119), (12000, 121), (12200, 123), (12400, 125), (12600, 127), (14500, 146), (14700, 148), (14900, 150), (15100, 152), (15300, 154), (15500, 156), (15700, 158), (15900, 160), (16100, 162), (16500, 166), (17500, 176), (17700, 178), (17900, 180)] (100 * o + j) else none) = some k := h
  cases hb : Nat.blt j 100 with
  | false => rw [hb] at h; cases h
  | true =>
    rw [hb] at h
    have hj : j < 100 := Nat.le_of_ble_eq_true hb
    have hm := vz_lk_mem (show vz_lk [(200, 3), (500, 6), (501, 7), (502, 8), (503, 9), (504, 10), (505, 11), (506, 12), (507, 13), (2100, 22), (2101, 23), (2102, 24), (2103, 25), (2104, 26), (2105, 27), (2106, 28), (2107, 29), (5201, 54), (5202, 55), (5203, 56), (5204, 57), (5205, 58), (5206, 59), (5207, 60), (5208, 61), (6700, 68), (6900, 70), (7100, 72), (7300, 74), (7500, 76), (7700, 78), (8000, 81), (8200, 83), (8400, 85), (8600, 87), (8800, 89), (9000, 91), (10900, 110), (11100, 112), (11300, 114), (11600, 117), (11800, 119), (12000, 121), (12200, 123), (12400, 125), (12600, 127), (14500, 146), (14700, 148), (14900, 150), (15100, 152), (15300, 154), (15500, 156), (15700, 158), (15900, 160), (16100, 162), (16500, 166), (17500, 176), (17700, 178), (17900, 180)] (100 * o + j) = some k from h)
    have hall : ∀ q ∈ ([(200, 3), (500, 6), (501, 7), (502, 8), (503, 9), (504, 10), (505, 11), (506, 12), (507, 13), (2100, 22), (2101, 23), (2102, 24), (2103, 25), (2104, 26), (2105, 27), (2106, 28), (2107, 29), (5201, 54), (5202, 55), (5203, 56), (5204, 57), (5205, 58), (5206, 59), (5207, 60), (5208, 61), (6700, 68), (6900, 70), (7100, 72), (7300, 74), (7500, 76), (7700, 78), (8000, 81), (8200, 83), (8400, 85), (8600, 87), (8800, 89), (9000, 91), (10900, 110), (11100, 112), (11300, 114), (11600, 117), (11800, 119), (12000, 121), (12200, 123), (12400, 125), (12600, 127), (14500, 146), (14700, 148), (14900, 150), (15100, 152), (15300, 154), (15500, 156), (15700, 158), (15900, 160), (16100, 162), (16500, 166), (17500, 176), (17700, 178), (17900, 180)] : List (Nat × Nat)), tb_gr.2.1 q.2 = some (q.1 / 100, q.1 % 100) ∧ 0 < q.2 ∧ q.2 ≤ tb_gr.1 := by decide +kernel
    obtain ⟨h1, h2, h3⟩ := hall _ hm
    refine ⟨?_, h2, h3⟩
    have e1 : (100 * o + j) / 100 = o := by omega
    have e2 : (100 * o + j) % 100 = j := by omega
    dsimp only at h1
    rw [e1, e2] at h1
    exact h1
