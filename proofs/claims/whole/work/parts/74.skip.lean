/-! skipBlanks, whole -/
theorem skip_ok {d i : Nat} {σ : st_S} {l : List Int32} (h : Tp σ l) (hb : l.length ≤ 16384) (hc : gN σ 3 ≤ 32768) (hi : gI σ 2 2 = nI i) (hl : i ≤ l.length) : vz_ev P0 (d + 1) 18 0 (lv_args 0 [.ref 2]) [] (hp σ) (.inl none, hp (st_i σ 2 2 (nI (sk l l.length false i)))) := by
  refine ev_x (i := .iconst 0) (len := 1) (p' := 1) (s' := [.int 0]) rfl rfl rfl ?_
  refine ev_x (i := .istore_n 1) (len := 1) (p' := 2) (s' := []) (l' := [(1, .int 0), (0, .ref 2)]) rfl rfl rfl ?_
  refine ev_hs (st_i_id σ 2 2 hi).symm ?_
  exact sb_loop h hb hc l.length i false _ hl (by omega) rfl rfl rfl
