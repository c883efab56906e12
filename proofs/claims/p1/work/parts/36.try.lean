/-- a change of an int field, folded back -/
theorem ev_hp {P : vz_P} {d y pc : Nat} {lv : vz_L} {st : List Value} {μ μ' : vz_H} {q : vz_O × vz_H} (h : μ = μ') (k : vz_ev P d y pc lv st μ' q) : vz_ev P d y pc lv st μ q := by
  subst h
  exact k
theorem ev_st {P : vz_P} {d y pc : Nat} {lv : vz_L} {st st' : List Value} {μ : vz_H} {q : vz_O × vz_H} (h : st = st') (k : vz_ev P d y pc lv st' μ q) : vz_ev P d y pc lv st μ q := by
  subst h
  exact k
theorem st_i_s (σ : st_S) (a k : Nat) (v : Int32) : (st_i σ a k v).1 a k = v := by
  show st_u σ.1 a k v a k = v
  exact st_u_s _ _ _ _
theorem sp_end_ok {d : Nat} {σ : st_S} {x : Int32} (h0 : ¬ x < 0) (h1 : x ≤ 20) (h2 : 20 ≤ σ.1 2 1) : vz_ev P0 d 105 0 [(0, .ref 1), (1, .int x)] [] (hp σ) (.inl (some (.int (σ.1 2 1 - 20 + x))), hp (st_i σ 2 1 (σ.1 2 1 - 20 + x))) := by
  refine ev_h (i := .iload_n 1) (len := 1) rfl rfl rfl ?_
  refine ev_h (i := .ifCond .lt 9) (len := 3) rfl rfl rfl ?_
  refine ev_pc (pc' := 4) (if_neg h0) ?_
  refine ev_h (i := .iload_n 1) (len := 1) rfl rfl rfl ?_
  refine ev_h (i := .bipush 20) (len := 2) rfl rfl rfl ?_
  refine ev_h (i := .if_icmp .le 13) (len := 3) rfl rfl rfl ?_
  refine ev_pc (pc' := 20) (if_pos h1) ?_
  refine ev_h (i := .aload_n 0) (len := 1) rfl rfl rfl ?_
  refine ev_h (i := .getfield 10) (len := 3) rfl rfl rfl ?_
  refine ev_h (i := .getfield 80) (len := 3) rfl rfl rfl ?_
  refine ev_h (i := .bipush 20) (len := 2) rfl rfl rfl ?_
  refine ev_h (i := .if_icmp .ge 13) (len := 3) rfl rfl rfl ?_
  refine ev_pc (pc' := 42) (if_pos h2) ?_
  refine ev_h (i := .aload_n 0) (len := 1) rfl rfl rfl ?_
  refine ev_h (i := .getfield 10) (len := 3) rfl rfl rfl ?_
  refine ev_h (i := .aload_n 0) (len := 1) rfl rfl rfl ?_
  refine ev_h (i := .getfield 10) (len := 3) rfl rfl rfl ?_
  refine ev_h (i := .getfield 80) (len := 3) rfl rfl rfl ?_
  refine ev_h (i := .bipush 20) (len := 2) rfl rfl rfl ?_
  refine ev_h (i := .isub) (len := 1) rfl rfl rfl ?_
  refine ev_h (i := .iload_n 1) (len := 1) rfl rfl rfl ?_
  refine ev_h (i := .iadd) (len := 1) rfl rfl rfl ?_
  refine ev_h (i := .putfield 80) (len := 3) rfl rfl rfl ?_
  refine ev_hp (st_h_i (lay := ly) (N := 187) (σ := σ) (a := 2) (k := 1) rfl rfl (σ.1 2 1 - 20 + x)) ?_
  refine ev_h (i := .aload_n 0) (len := 1) rfl rfl rfl ?_
  refine ev_h (i := .getfield 10) (len := 3) rfl rfl rfl ?_
  refine ev_h (i := .getfield 80) (len := 3) rfl rfl rfl ?_
  refine ev_st (st' := [.int (σ.1 2 1 - 20 + x)]) (congrArg (fun z => [Value.int z]) (st_i_s σ 2 1 _)) ?_
  exact ev_iret rfl rfl rfl rfl
