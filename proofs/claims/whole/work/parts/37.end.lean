/-- end(n) with fewer than twenty characters throws -/
theorem sp_end_few {d : Nat} {σ : st_S} {x : Int32} (hd : decide (8 ≤ d) = true) (h0 : ¬ x < 0) (h1 : x ≤ 20) (h2 : ¬ 20 ≤ σ.1 2 1) : vz_ev P0 d 105 0 [(0, .ref 1), (1, .int x)] [] (hp σ) (.inr "java/lang/IllegalArgumentException", ((hp σ).1, (hp σ).2.1, (hp σ).2.2.1 + 1, (hp σ).2.2.2 + 6)) := by
  refine ev_h (i := .iload_n 1) (len := 1) rfl rfl rfl ?_
  refine ev_h (i := .ifCond .lt 9) (len := 3) rfl rfl rfl ?_
  refine ev_pc (pc' := 4) (if_neg h0) ?_
  refine ev_h (i := .iload_n 1) (len := 1) rfl rfl rfl ?_
  refine ev_h (i := .bipush 20) (len := 2) rfl rfl rfl ?_
  refine ev_h (i := .if_icmp .le 13) (len := 3) rfl rfl rfl ?_
  refine ev_pc (pc' := 20) (if_pos h1) ?_
  refine ev_h (i := .aload_n 0) (len := 1) rfl rfl rfl ?_
  refine ev_h (i := .getfield 10) (len := 3) rfl rfl rfl ?_
  refine ev_h (i := .getfield 80) (len := 3) rfl rfl rfl ?_
  refine ev_h (i := .bipush 20) (len := 2) rfl rfl rfl ?_
  refine ev_h (i := .if_icmp .ge 13) (len := 3) rfl rfl rfl ?_
  refine ev_pc (pc' := 32) (if_neg h2) ?_
  exact ev_throw rfl hd rfl
/-- a throw counts a cell of six slots: folded back into the store -/
def st_n (σ : st_S) (c n : Nat) : st_S := (σ.1, σ.2.1, σ.2.2.1, σ.2.2.2.1, σ.2.2.2.2.1, σ.2.2.2.2.2.1, gC σ, gF σ, gA σ + c, gB σ + n)
theorem st_h_n (σ : st_S) (c n : Nat) : ((hp σ).1, (hp σ).2.1, (hp σ).2.2.1 + c, (hp σ).2.2.2 + n) = hp (st_n σ c n) := by
  refine Prod.ext rfl (Prod.ext (funext fun b => ?_) rfl)
  show st_c ly σ b = st_c ly (st_n σ c n) b
  unfold st_c
  split
  · rw [st_f_other (σ := σ) (σ' := st_n σ c n) (fun _ => rfl) (fun _ => rfl) (fun _ => rfl)]
  · rfl
  · rfl
  · rfl
