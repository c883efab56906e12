/-! a first run: end(n) of a fresh class for a number below 0 throws -/
theorem ev_pc {P : vz_P} {d y pc pc' : Nat} {lv : vz_L} {st : List Value} {μ : vz_H} {q : vz_O × vz_H} (h : pc = pc') (k : vz_ev P d y pc' lv st μ q) : vz_ev P d y pc lv st μ q := by
  subst h
  exact k
theorem sp_end_neg {d : Nat} {μ : vz_H} {x : Int32} (hd : decide (8 ≤ d) = true) (h : x < 0) : vz_ev P0 d 105 0 [(0, .ref 1), (1, .int x)] [] μ (.inr "java/lang/IllegalArgumentException", (μ.1, μ.2.1, μ.2.2.1 + 1, μ.2.2.2 + 6)) := by
  refine ev_h (i := .iload_n 1) (len := 1) rfl rfl rfl ?_
  refine ev_h (i := .ifCond .lt 9) (len := 3) rfl rfl rfl ?_
  refine ev_pc (pc' := 10) (if_pos h) ?_
  exact ev_throw rfl hd rfl
theorem sp_end_big {d : Nat} {μ : vz_H} {x : Int32} (hd : decide (8 ≤ d) = true) (h0 : ¬ x < 0) (h : ¬ x ≤ 20) : vz_ev P0 d 105 0 [(0, .ref 1), (1, .int x)] [] μ (.inr "java/lang/IllegalArgumentException", (μ.1, μ.2.1, μ.2.2.1 + 1, μ.2.2.2 + 6)) := by
  refine ev_h (i := .iload_n 1) (len := 1) rfl rfl rfl ?_
  refine ev_h (i := .ifCond .lt 9) (len := 3) rfl rfl rfl ?_
  refine ev_pc (pc' := 4) (if_neg h0) ?_
  refine ev_h (i := .iload_n 1) (len := 1) rfl rfl rfl ?_
  refine ev_h (i := .bipush 20) (len := 2) rfl rfl rfl ?_
  refine ev_h (i := .if_icmp .le 13) (len := 3) rfl rfl rfl ?_
  refine ev_pc (pc' := 10) (if_neg h) ?_
  exact ev_throw rfl hd rfl
