/-! feed in the law. Written by wip/prog/gen_steps.py -/
set_option maxHeartbeats 4000000 in
set_option maxRecDepth 100000 in
/-- GameTextLaw.law([I)Z -/
theorem lw_0_0 {d : Nat} {σ : st_S} {σ1 σ2 : st_S} {x_r x_s : Int32} {q : vz_O × vz_H} {n L : Nat} {xs : Nat → Int32} (hs : gF σ 0 = .inl (0, L, .inl xs)) (hn : n + 6 ≤ L) (hL : L ≤ 3072) (hs1 : gF σ1 0 = .inl (0, L, .inl xs)) (k_1 : vz_ev P0 (d + 10) 11 0 (lv_args 0 [.ref 1, .int (xs (n + 1)), .int (xs (n + 2)), .int (xs (n + 3)), .int (xs (n + 4)), .int (xs (n + 5))]) [] (hp (σ)) (.inl (some (.int x_r)), hp σ1)) (k_2 : vz_ev P0 (d + 10) 131 0 (lv_args 0 [.ref 66, .int (xs (n + 1)), .int (xs (n + 2)), .int (xs (n + 3)), .int (xs (n + 4)), .int (xs (n + 5))]) [] (hp (σ1)) (.inl (some (.int x_s)), hp σ2)) (c_3 : x_r = x_s) (k : vz_ev P0 (d + 11) 0 615 [(4, .int (nI n)), (3, .ref 187), (2, .ref 66), (1, .ref 1), (0, .ref 0)] [] (hp (σ2)) q) : vz_ev P0 (d + 11) 0 112 [(4, .int (nI n)), (3, .ref 187), (2, .ref 66), (1, .ref 1), (0, .ref 0)] [] (hp σ) q := by
  refine ev_x (i := .aload_n 1) (len := 1) (p' := 113) (s' := [.ref 1]) rfl rfl rfl ?_
  refine ev_x (i := .aload_n 0) (len := 1) (p' := 114) (s' := [.ref 0, .ref 1]) rfl rfl rfl ?_
  refine ev_x (i := .iload 4) (len := 2) (p' := 116) (s' := [.int (nI n), .ref 0, .ref 1]) rfl rfl rfl ?_
  refine ev_x (i := .iconst 1) (len := 1) (p' := 117) (s' := [.int 1, .int (nI n), .ref 0, .ref 1]) rfl rfl rfl ?_
  refine ev_x (i := .iadd) (len := 1) (p' := 118) (s' := [.int ((nI n) + 1), .ref 0, .ref 1]) rfl rfl rfl ?_
  refine ev_st (st' := [.int (nI (n + 1)), .ref 0, .ref 1]) (congrArg (fun z => Value.int z :: [.ref 0, .ref 1]) (nI_add n 1)) ?_
  refine ev_sg (p' := 119) rfl rfl hs (vp_in_nI (by omega) (by omega)) rfl ?_
  refine ev_st (st' := [.int (xs (n + 1)), .ref 1]) (congrArg (fun z => Value.int (xs z) :: [.ref 1]) (nI_clamp (n := n + 1) (by omega))) ?_
  refine ev_x (i := .aload_n 0) (len := 1) (p' := 120) (s' := [.ref 0, .int (xs (n + 1)), .ref 1]) rfl rfl rfl ?_
  refine ev_x (i := .iload 4) (len := 2) (p' := 122) (s' := [.int (nI n), .ref 0, .int (xs (n + 1)), .ref 1]) rfl rfl rfl ?_
  refine ev_x (i := .iconst 2) (len := 1) (p' := 123) (s' := [.int 2, .int (nI n), .ref 0, .int (xs (n + 1)), .ref 1]) rfl rfl rfl ?_
  refine ev_x (i := .iadd) (len := 1) (p' := 124) (s' := [.int ((nI n) + 2), .ref 0, .int (xs (n + 1)), .ref 1]) rfl rfl rfl ?_
  refine ev_st (st' := [.int (nI (n + 2)), .ref 0, .int (xs (n + 1)), .ref 1]) (congrArg (fun z => Value.int z :: [.ref 0, .int (xs (n + 1)), .ref 1]) (nI_add n 2)) ?_
  refine ev_sg (p' := 125) rfl rfl hs (vp_in_nI (by omega) (by omega)) rfl ?_
  refine ev_st (st' := [.int (xs (n + 2)), .int (xs (n + 1)), .ref 1]) (congrArg (fun z => Value.int (xs z) :: [.int (xs (n + 1)), .ref 1]) (nI_clamp (n := n + 2) (by omega))) ?_
  refine ev_x (i := .aload_n 0) (len := 1) (p' := 126) (s' := [.ref 0, .int (xs (n + 2)), .int (xs (n + 1)), .ref 1]) rfl rfl rfl ?_
  refine ev_x (i := .iload 4) (len := 2) (p' := 128) (s' := [.int (nI n), .ref 0, .int (xs (n + 2)), .int (xs (n + 1)), .ref 1]) rfl rfl rfl ?_
  refine ev_x (i := .iconst 3) (len := 1) (p' := 129) (s' := [.int 3, .int (nI n), .ref 0, .int (xs (n + 2)), .int (xs (n + 1)), .ref 1]) rfl rfl rfl ?_
  refine ev_x (i := .iadd) (len := 1) (p' := 130) (s' := [.int ((nI n) + 3), .ref 0, .int (xs (n + 2)), .int (xs (n + 1)), .ref 1]) rfl rfl rfl ?_
  refine ev_st (st' := [.int (nI (n + 3)), .ref 0, .int (xs (n + 2)), .int (xs (n + 1)), .ref 1]) (congrArg (fun z => Value.int z :: [.ref 0, .int (xs (n + 2)), .int (xs (n + 1)), .ref 1]) (nI_add n 3)) ?_
  refine ev_sg (p' := 131) rfl rfl hs (vp_in_nI (by omega) (by omega)) rfl ?_
  refine ev_st (st' := [.int (xs (n + 3)), .int (xs (n + 2)), .int (xs (n + 1)), .ref 1]) (congrArg (fun z => Value.int (xs z) :: [.int (xs (n + 2)), .int (xs (n + 1)), .ref 1]) (nI_clamp (n := n + 3) (by omega))) ?_
  refine ev_x (i := .aload_n 0) (len := 1) (p' := 132) (s' := [.ref 0, .int (xs (n + 3)), .int (xs (n + 2)), .int (xs (n + 1)), .ref 1]) rfl rfl rfl ?_
  refine ev_x (i := .iload 4) (len := 2) (p' := 134) (s' := [.int (nI n), .ref 0, .int (xs (n + 3)), .int (xs (n + 2)), .int (xs (n + 1)), .ref 1]) rfl rfl rfl ?_
  refine ev_x (i := .iconst 4) (len := 1) (p' := 135) (s' := [.int 4, .int (nI n), .ref 0, .int (xs (n + 3)), .int (xs (n + 2)), .int (xs (n + 1)), .ref 1]) rfl rfl rfl ?_
  refine ev_x (i := .iadd) (len := 1) (p' := 136) (s' := [.int ((nI n) + 4), .ref 0, .int (xs (n + 3)), .int (xs (n + 2)), .int (xs (n + 1)), .ref 1]) rfl rfl rfl ?_
  refine ev_st (st' := [.int (nI (n + 4)), .ref 0, .int (xs (n + 3)), .int (xs (n + 2)), .int (xs (n + 1)), .ref 1]) (congrArg (fun z => Value.int z :: [.ref 0, .int (xs (n + 3)), .int (xs (n + 2)), .int (xs (n + 1)), .ref 1]) (nI_add n 4)) ?_
  refine ev_sg (p' := 137) rfl rfl hs (vp_in_nI (by omega) (by omega)) rfl ?_
  refine ev_st (st' := [.int (xs (n + 4)), .int (xs (n + 3)), .int (xs (n + 2)), .int (xs (n + 1)), .ref 1]) (congrArg (fun z => Value.int (xs z) :: [.int (xs (n + 3)), .int (xs (n + 2)), .int (xs (n + 1)), .ref 1]) (nI_clamp (n := n + 4) (by omega))) ?_
  refine ev_x (i := .aload_n 0) (len := 1) (p' := 138) (s' := [.ref 0, .int (xs (n + 4)), .int (xs (n + 3)), .int (xs (n + 2)), .int (xs (n + 1)), .ref 1]) rfl rfl rfl ?_
  refine ev_x (i := .iload 4) (len := 2) (p' := 140) (s' := [.int (nI n), .ref 0, .int (xs (n + 4)), .int (xs (n + 3)), .int (xs (n + 2)), .int (xs (n + 1)), .ref 1]) rfl rfl rfl ?_
  refine ev_x (i := .iconst 5) (len := 1) (p' := 141) (s' := [.int 5, .int (nI n), .ref 0, .int (xs (n + 4)), .int (xs (n + 3)), .int (xs (n + 2)), .int (xs (n + 1)), .ref 1]) rfl rfl rfl ?_
  refine ev_x (i := .iadd) (len := 1) (p' := 142) (s' := [.int ((nI n) + 5), .ref 0, .int (xs (n + 4)), .int (xs (n + 3)), .int (xs (n + 2)), .int (xs (n + 1)), .ref 1]) rfl rfl rfl ?_
  refine ev_st (st' := [.int (nI (n + 5)), .ref 0, .int (xs (n + 4)), .int (xs (n + 3)), .int (xs (n + 2)), .int (xs (n + 1)), .ref 1]) (congrArg (fun z => Value.int z :: [.ref 0, .int (xs (n + 4)), .int (xs (n + 3)), .int (xs (n + 2)), .int (xs (n + 1)), .ref 1]) (nI_add n 5)) ?_
  refine ev_sg (p' := 143) rfl rfl hs (vp_in_nI (by omega) (by omega)) rfl ?_
  refine ev_st (st' := [.int (xs (n + 5)), .int (xs (n + 4)), .int (xs (n + 3)), .int (xs (n + 2)), .int (xs (n + 1)), .ref 1]) (congrArg (fun z => Value.int (xs z) :: [.int (xs (n + 4)), .int (xs (n + 3)), .int (xs (n + 2)), .int (xs (n + 1)), .ref 1]) (nI_clamp (n := n + 5) (by omega))) ?_
  refine ev_cv (d := d + 10) (As := [.int (xs (n + 1)), .int (xs (n + 2)), .int (xs (n + 3)), .int (xs (n + 4)), .int (xs (n + 5))]) (a := 1) (p' := 146) rfl rfl rfl ly_1 rfl rfl rfl rfl rfl rfl rfl k_1 ?_
  refine ev_st (st' := [.int x_r]) rfl ?_
  refine ev_x (i := .aload_n 2) (len := 1) (p' := 147) (s' := [.ref 66, .int x_r]) rfl rfl rfl ?_
  refine ev_x (i := .aload_n 0) (len := 1) (p' := 148) (s' := [.ref 0, .ref 66, .int x_r]) rfl rfl rfl ?_
  refine ev_x (i := .iload 4) (len := 2) (p' := 150) (s' := [.int (nI n), .ref 0, .ref 66, .int x_r]) rfl rfl rfl ?_
  refine ev_x (i := .iconst 1) (len := 1) (p' := 151) (s' := [.int 1, .int (nI n), .ref 0, .ref 66, .int x_r]) rfl rfl rfl ?_
  refine ev_x (i := .iadd) (len := 1) (p' := 152) (s' := [.int ((nI n) + 1), .ref 0, .ref 66, .int x_r]) rfl rfl rfl ?_
  refine ev_st (st' := [.int (nI (n + 1)), .ref 0, .ref 66, .int x_r]) (congrArg (fun z => Value.int z :: [.ref 0, .ref 66, .int x_r]) (nI_add n 1)) ?_
  refine ev_sg (p' := 153) rfl rfl hs1 (vp_in_nI (by omega) (by omega)) rfl ?_
  refine ev_st (st' := [.int (xs (n + 1)), .ref 66, .int x_r]) (congrArg (fun z => Value.int (xs z) :: [.ref 66, .int x_r]) (nI_clamp (n := n + 1) (by omega))) ?_
  refine ev_x (i := .aload_n 0) (len := 1) (p' := 154) (s' := [.ref 0, .int (xs (n + 1)), .ref 66, .int x_r]) rfl rfl rfl ?_
  refine ev_x (i := .iload 4) (len := 2) (p' := 156) (s' := [.int (nI n), .ref 0, .int (xs (n + 1)), .ref 66, .int x_r]) rfl rfl rfl ?_
  refine ev_x (i := .iconst 2) (len := 1) (p' := 157) (s' := [.int 2, .int (nI n), .ref 0, .int (xs (n + 1)), .ref 66, .int x_r]) rfl rfl rfl ?_
  refine ev_x (i := .iadd) (len := 1) (p' := 158) (s' := [.int ((nI n) + 2), .ref 0, .int (xs (n + 1)), .ref 66, .int x_r]) rfl rfl rfl ?_
  refine ev_st (st' := [.int (nI (n + 2)), .ref 0, .int (xs (n + 1)), .ref 66, .int x_r]) (congrArg (fun z => Value.int z :: [.ref 0, .int (xs (n + 1)), .ref 66, .int x_r]) (nI_add n 2)) ?_
  refine ev_sg (p' := 159) rfl rfl hs1 (vp_in_nI (by omega) (by omega)) rfl ?_
  refine ev_st (st' := [.int (xs (n + 2)), .int (xs (n + 1)), .ref 66, .int x_r]) (congrArg (fun z => Value.int (xs z) :: [.int (xs (n + 1)), .ref 66, .int x_r]) (nI_clamp (n := n + 2) (by omega))) ?_
  refine ev_x (i := .aload_n 0) (len := 1) (p' := 160) (s' := [.ref 0, .int (xs (n + 2)), .int (xs (n + 1)), .ref 66, .int x_r]) rfl rfl rfl ?_
  refine ev_x (i := .iload 4) (len := 2) (p' := 162) (s' := [.int (nI n), .ref 0, .int (xs (n + 2)), .int (xs (n + 1)), .ref 66, .int x_r]) rfl rfl rfl ?_
  refine ev_x (i := .iconst 3) (len := 1) (p' := 163) (s' := [.int 3, .int (nI n), .ref 0, .int (xs (n + 2)), .int (xs (n + 1)), .ref 66, .int x_r]) rfl rfl rfl ?_
  refine ev_x (i := .iadd) (len := 1) (p' := 164) (s' := [.int ((nI n) + 3), .ref 0, .int (xs (n + 2)), .int (xs (n + 1)), .ref 66, .int x_r]) rfl rfl rfl ?_
  refine ev_st (st' := [.int (nI (n + 3)), .ref 0, .int (xs (n + 2)), .int (xs (n + 1)), .ref 66, .int x_r]) (congrArg (fun z => Value.int z :: [.ref 0, .int (xs (n + 2)), .int (xs (n + 1)), .ref 66, .int x_r]) (nI_add n 3)) ?_
  refine ev_sg (p' := 165) rfl rfl hs1 (vp_in_nI (by omega) (by omega)) rfl ?_
  refine ev_st (st' := [.int (xs (n + 3)), .int (xs (n + 2)), .int (xs (n + 1)), .ref 66, .int x_r]) (congrArg (fun z => Value.int (xs z) :: [.int (xs (n + 2)), .int (xs (n + 1)), .ref 66, .int x_r]) (nI_clamp (n := n + 3) (by omega))) ?_
  refine ev_x (i := .aload_n 0) (len := 1) (p' := 166) (s' := [.ref 0, .int (xs (n + 3)), .int (xs (n + 2)), .int (xs (n + 1)), .ref 66, .int x_r]) rfl rfl rfl ?_
  refine ev_x (i := .iload 4) (len := 2) (p' := 168) (s' := [.int (nI n), .ref 0, .int (xs (n + 3)), .int (xs (n + 2)), .int (xs (n + 1)), .ref 66, .int x_r]) rfl rfl rfl ?_
  refine ev_x (i := .iconst 4) (len := 1) (p' := 169) (s' := [.int 4, .int (nI n), .ref 0, .int (xs (n + 3)), .int (xs (n + 2)), .int (xs (n + 1)), .ref 66, .int x_r]) rfl rfl rfl ?_
  refine ev_x (i := .iadd) (len := 1) (p' := 170) (s' := [.int ((nI n) + 4), .ref 0, .int (xs (n + 3)), .int (xs (n + 2)), .int (xs (n + 1)), .ref 66, .int x_r]) rfl rfl rfl ?_
  refine ev_st (st' := [.int (nI (n + 4)), .ref 0, .int (xs (n + 3)), .int (xs (n + 2)), .int (xs (n + 1)), .ref 66, .int x_r]) (congrArg (fun z => Value.int z :: [.ref 0, .int (xs (n + 3)), .int (xs (n + 2)), .int (xs (n + 1)), .ref 66, .int x_r]) (nI_add n 4)) ?_
  refine ev_sg (p' := 171) rfl rfl hs1 (vp_in_nI (by omega) (by omega)) rfl ?_
  refine ev_st (st' := [.int (xs (n + 4)), .int (xs (n + 3)), .int (xs (n + 2)), .int (xs (n + 1)), .ref 66, .int x_r]) (congrArg (fun z => Value.int (xs z) :: [.int (xs (n + 3)), .int (xs (n + 2)), .int (xs (n + 1)), .ref 66, .int x_r]) (nI_clamp (n := n + 4) (by omega))) ?_
  refine ev_x (i := .aload_n 0) (len := 1) (p' := 172) (s' := [.ref 0, .int (xs (n + 4)), .int (xs (n + 3)), .int (xs (n + 2)), .int (xs (n + 1)), .ref 66, .int x_r]) rfl rfl rfl ?_
  refine ev_x (i := .iload 4) (len := 2) (p' := 174) (s' := [.int (nI n), .ref 0, .int (xs (n + 4)), .int (xs (n + 3)), .int (xs (n + 2)), .int (xs (n + 1)), .ref 66, .int x_r]) rfl rfl rfl ?_
  refine ev_x (i := .iconst 5) (len := 1) (p' := 175) (s' := [.int 5, .int (nI n), .ref 0, .int (xs (n + 4)), .int (xs (n + 3)), .int (xs (n + 2)), .int (xs (n + 1)), .ref 66, .int x_r]) rfl rfl rfl ?_
  refine ev_x (i := .iadd) (len := 1) (p' := 176) (s' := [.int ((nI n) + 5), .ref 0, .int (xs (n + 4)), .int (xs (n + 3)), .int (xs (n + 2)), .int (xs (n + 1)), .ref 66, .int x_r]) rfl rfl rfl ?_
  refine ev_st (st' := [.int (nI (n + 5)), .ref 0, .int (xs (n + 4)), .int (xs (n + 3)), .int (xs (n + 2)), .int (xs (n + 1)), .ref 66, .int x_r]) (congrArg (fun z => Value.int z :: [.ref 0, .int (xs (n + 4)), .int (xs (n + 3)), .int (xs (n + 2)), .int (xs (n + 1)), .ref 66, .int x_r]) (nI_add n 5)) ?_
  refine ev_sg (p' := 177) rfl rfl hs1 (vp_in_nI (by omega) (by omega)) rfl ?_
  refine ev_st (st' := [.int (xs (n + 5)), .int (xs (n + 4)), .int (xs (n + 3)), .int (xs (n + 2)), .int (xs (n + 1)), .ref 66, .int x_r]) (congrArg (fun z => Value.int (xs z) :: [.int (xs (n + 4)), .int (xs (n + 3)), .int (xs (n + 2)), .int (xs (n + 1)), .ref 66, .int x_r]) (nI_clamp (n := n + 5) (by omega))) ?_
  refine ev_cv (d := d + 10) (As := [.int (xs (n + 1)), .int (xs (n + 2)), .int (xs (n + 3)), .int (xs (n + 4)), .int (xs (n + 5))]) (a := 66) (p' := 180) rfl rfl rfl ly_66 rfl rfl rfl rfl rfl rfl rfl k_2 ?_
  refine ev_st (st' := [.int x_s, .int x_r]) rfl ?_
  refine ev_b2 (t := 615) (p' := 615) rfl rfl rfl (if_pos c_3) ?_
  exact k
set_option maxHeartbeats 4000000 in
set_option maxRecDepth 100000 in
/-- GameTextLaw.law([I)Z -/
theorem lw_0_1 {d : Nat} {σ : st_S} {σ1 σ2 : st_S} {x_b x_k x_r x_s : Int32} {q : vz_O × vz_H} {n L : Nat} {xs : Nat → Int32} (hs : gF σ 0 = .inl (0, L, .inl xs)) (hn : n + 6 ≤ L) (hL : L ≤ 3072) (hs1 : gF σ1 0 = .inl (0, L, .inl xs)) (k_1 : vz_ev P0 (d + 10) 11 0 (lv_args 0 [.ref 1, .int (xs (n + 1)), .int (xs (n + 2)), .int (xs (n + 3)), .int (xs (n + 4)), .int (xs (n + 5))]) [] (hp (σ)) (.inl (some (.int x_r)), hp σ1)) (k_2 : vz_ev P0 (d + 10) 131 0 (lv_args 0 [.ref 66, .int (xs (n + 1)), .int (xs (n + 2)), .int (xs (n + 3)), .int (xs (n + 4)), .int (xs (n + 5))]) [] (hp (σ1)) (.inl (some (.int x_s)), hp σ2)) (c_3 : x_r = x_s) (k : vz_ev P0 (d + 11) 0 615 [(4, .int (nI n)), (6, .int x_b), (5, .int x_k), (3, .ref 187), (2, .ref 66), (1, .ref 1), (0, .ref 0)] [] (hp (σ2)) q) : vz_ev P0 (d + 11) 0 112 [(4, .int (nI n)), (6, .int x_b), (5, .int x_k), (3, .ref 187), (2, .ref 66), (1, .ref 1), (0, .ref 0)] [] (hp σ) q := by
  refine ev_x (i := .aload_n 1) (len := 1) (p' := 113) (s' := [.ref 1]) rfl rfl rfl ?_
  refine ev_x (i := .aload_n 0) (len := 1) (p' := 114) (s' := [.ref 0, .ref 1]) rfl rfl rfl ?_
  refine ev_x (i := .iload 4) (len := 2) (p' := 116) (s' := [.int (nI n), .ref 0, .ref 1]) rfl rfl rfl ?_
  refine ev_x (i := .iconst 1) (len := 1) (p' := 117) (s' := [.int 1, .int (nI n), .ref 0, .ref 1]) rfl rfl rfl ?_
  refine ev_x (i := .iadd) (len := 1) (p' := 118) (s' := [.int ((nI n) + 1), .ref 0, .ref 1]) rfl rfl rfl ?_
  refine ev_st (st' := [.int (nI (n + 1)), .ref 0, .ref 1]) (congrArg (fun z => Value.int z :: [.ref 0, .ref 1]) (nI_add n 1)) ?_
  refine ev_sg (p' := 119) rfl rfl hs (vp_in_nI (by omega) (by omega)) rfl ?_
  refine ev_st (st' := [.int (xs (n + 1)), .ref 1]) (congrArg (fun z => Value.int (xs z) :: [.ref 1]) (nI_clamp (n := n + 1) (by omega))) ?_
  refine ev_x (i := .aload_n 0) (len := 1) (p' := 120) (s' := [.ref 0, .int (xs (n + 1)), .ref 1]) rfl rfl rfl ?_
  refine ev_x (i := .iload 4) (len := 2) (p' := 122) (s' := [.int (nI n), .ref 0, .int (xs (n + 1)), .ref 1]) rfl rfl rfl ?_
  refine ev_x (i := .iconst 2) (len := 1) (p' := 123) (s' := [.int 2, .int (nI n), .ref 0, .int (xs (n + 1)), .ref 1]) rfl rfl rfl ?_
  refine ev_x (i := .iadd) (len := 1) (p' := 124) (s' := [.int ((nI n) + 2), .ref 0, .int (xs (n + 1)), .ref 1]) rfl rfl rfl ?_
  refine ev_st (st' := [.int (nI (n + 2)), .ref 0, .int (xs (n + 1)), .ref 1]) (congrArg (fun z => Value.int z :: [.ref 0, .int (xs (n + 1)), .ref 1]) (nI_add n 2)) ?_
  refine ev_sg (p' := 125) rfl rfl hs (vp_in_nI (by omega) (by omega)) rfl ?_
  refine ev_st (st' := [.int (xs (n + 2)), .int (xs (n + 1)), .ref 1]) (congrArg (fun z => Value.int (xs z) :: [.int (xs (n + 1)), .ref 1]) (nI_clamp (n := n + 2) (by omega))) ?_
  refine ev_x (i := .aload_n 0) (len := 1) (p' := 126) (s' := [.ref 0, .int (xs (n + 2)), .int (xs (n + 1)), .ref 1]) rfl rfl rfl ?_
  refine ev_x (i := .iload 4) (len := 2) (p' := 128) (s' := [.int (nI n), .ref 0, .int (xs (n + 2)), .int (xs (n + 1)), .ref 1]) rfl rfl rfl ?_
  refine ev_x (i := .iconst 3) (len := 1) (p' := 129) (s' := [.int 3, .int (nI n), .ref 0, .int (xs (n + 2)), .int (xs (n + 1)), .ref 1]) rfl rfl rfl ?_
  refine ev_x (i := .iadd) (len := 1) (p' := 130) (s' := [.int ((nI n) + 3), .ref 0, .int (xs (n + 2)), .int (xs (n + 1)), .ref 1]) rfl rfl rfl ?_
  refine ev_st (st' := [.int (nI (n + 3)), .ref 0, .int (xs (n + 2)), .int (xs (n + 1)), .ref 1]) (congrArg (fun z => Value.int z :: [.ref 0, .int (xs (n + 2)), .int (xs (n + 1)), .ref 1]) (nI_add n 3)) ?_
  refine ev_sg (p' := 131) rfl rfl hs (vp_in_nI (by omega) (by omega)) rfl ?_
  refine ev_st (st' := [.int (xs (n + 3)), .int (xs (n + 2)), .int (xs (n + 1)), .ref 1]) (congrArg (fun z => Value.int (xs z) :: [.int (xs (n + 2)), .int (xs (n + 1)), .ref 1]) (nI_clamp (n := n + 3) (by omega))) ?_
  refine ev_x (i := .aload_n 0) (len := 1) (p' := 132) (s' := [.ref 0, .int (xs (n + 3)), .int (xs (n + 2)), .int (xs (n + 1)), .ref 1]) rfl rfl rfl ?_
  refine ev_x (i := .iload 4) (len := 2) (p' := 134) (s' := [.int (nI n), .ref 0, .int (xs (n + 3)), .int (xs (n + 2)), .int (xs (n + 1)), .ref 1]) rfl rfl rfl ?_
  refine ev_x (i := .iconst 4) (len := 1) (p' := 135) (s' := [.int 4, .int (nI n), .ref 0, .int (xs (n + 3)), .int (xs (n + 2)), .int (xs (n + 1)), .ref 1]) rfl rfl rfl ?_
  refine ev_x (i := .iadd) (len := 1) (p' := 136) (s' := [.int ((nI n) + 4), .ref 0, .int (xs (n + 3)), .int (xs (n + 2)), .int (xs (n + 1)), .ref 1]) rfl rfl rfl ?_
  refine ev_st (st' := [.int (nI (n + 4)), .ref 0, .int (xs (n + 3)), .int (xs (n + 2)), .int (xs (n + 1)), .ref 1]) (congrArg (fun z => Value.int z :: [.ref 0, .int (xs (n + 3)), .int (xs (n + 2)), .int (xs (n + 1)), .ref 1]) (nI_add n 4)) ?_
  refine ev_sg (p' := 137) rfl rfl hs (vp_in_nI (by omega) (by omega)) rfl ?_
  refine ev_st (st' := [.int (xs (n + 4)), .int (xs (n + 3)), .int (xs (n + 2)), .int (xs (n + 1)), .ref 1]) (congrArg (fun z => Value.int (xs z) :: [.int (xs (n + 3)), .int (xs (n + 2)), .int (xs (n + 1)), .ref 1]) (nI_clamp (n := n + 4) (by omega))) ?_
  refine ev_x (i := .aload_n 0) (len := 1) (p' := 138) (s' := [.ref 0, .int (xs (n + 4)), .int (xs (n + 3)), .int (xs (n + 2)), .int (xs (n + 1)), .ref 1]) rfl rfl rfl ?_
  refine ev_x (i := .iload 4) (len := 2) (p' := 140) (s' := [.int (nI n), .ref 0, .int (xs (n + 4)), .int (xs (n + 3)), .int (xs (n + 2)), .int (xs (n + 1)), .ref 1]) rfl rfl rfl ?_
  refine ev_x (i := .iconst 5) (len := 1) (p' := 141) (s' := [.int 5, .int (nI n), .ref 0, .int (xs (n + 4)), .int (xs (n + 3)), .int (xs (n + 2)), .int (xs (n + 1)), .ref 1]) rfl rfl rfl ?_
  refine ev_x (i := .iadd) (len := 1) (p' := 142) (s' := [.int ((nI n) + 5), .ref 0, .int (xs (n + 4)), .int (xs (n + 3)), .int (xs (n + 2)), .int (xs (n + 1)), .ref 1]) rfl rfl rfl ?_
  refine ev_st (st' := [.int (nI (n + 5)), .ref 0, .int (xs (n + 4)), .int (xs (n + 3)), .int (xs (n + 2)), .int (xs (n + 1)), .ref 1]) (congrArg (fun z => Value.int z :: [.ref 0, .int (xs (n + 4)), .int (xs (n + 3)), .int (xs (n + 2)), .int (xs (n + 1)), .ref 1]) (nI_add n 5)) ?_
  refine ev_sg (p' := 143) rfl rfl hs (vp_in_nI (by omega) (by omega)) rfl ?_
  refine ev_st (st' := [.int (xs (n + 5)), .int (xs (n + 4)), .int (xs (n + 3)), .int (xs (n + 2)), .int (xs (n + 1)), .ref 1]) (congrArg (fun z => Value.int (xs z) :: [.int (xs (n + 4)), .int (xs (n + 3)), .int (xs (n + 2)), .int (xs (n + 1)), .ref 1]) (nI_clamp (n := n + 5) (by omega))) ?_
  refine ev_cv (d := d + 10) (As := [.int (xs (n + 1)), .int (xs (n + 2)), .int (xs (n + 3)), .int (xs (n + 4)), .int (xs (n + 5))]) (a := 1) (p' := 146) rfl rfl rfl ly_1 rfl rfl rfl rfl rfl rfl rfl k_1 ?_
  refine ev_st (st' := [.int x_r]) rfl ?_
  refine ev_x (i := .aload_n 2) (len := 1) (p' := 147) (s' := [.ref 66, .int x_r]) rfl rfl rfl ?_
  refine ev_x (i := .aload_n 0) (len := 1) (p' := 148) (s' := [.ref 0, .ref 66, .int x_r]) rfl rfl rfl ?_
  refine ev_x (i := .iload 4) (len := 2) (p' := 150) (s' := [.int (nI n), .ref 0, .ref 66, .int x_r]) rfl rfl rfl ?_
  refine ev_x (i := .iconst 1) (len := 1) (p' := 151) (s' := [.int 1, .int (nI n), .ref 0, .ref 66, .int x_r]) rfl rfl rfl ?_
  refine ev_x (i := .iadd) (len := 1) (p' := 152) (s' := [.int ((nI n) + 1), .ref 0, .ref 66, .int x_r]) rfl rfl rfl ?_
  refine ev_st (st' := [.int (nI (n + 1)), .ref 0, .ref 66, .int x_r]) (congrArg (fun z => Value.int z :: [.ref 0, .ref 66, .int x_r]) (nI_add n 1)) ?_
  refine ev_sg (p' := 153) rfl rfl hs1 (vp_in_nI (by omega) (by omega)) rfl ?_
  refine ev_st (st' := [.int (xs (n + 1)), .ref 66, .int x_r]) (congrArg (fun z => Value.int (xs z) :: [.ref 66, .int x_r]) (nI_clamp (n := n + 1) (by omega))) ?_
  refine ev_x (i := .aload_n 0) (len := 1) (p' := 154) (s' := [.ref 0, .int (xs (n + 1)), .ref 66, .int x_r]) rfl rfl rfl ?_
  refine ev_x (i := .iload 4) (len := 2) (p' := 156) (s' := [.int (nI n), .ref 0, .int (xs (n + 1)), .ref 66, .int x_r]) rfl rfl rfl ?_
  refine ev_x (i := .iconst 2) (len := 1) (p' := 157) (s' := [.int 2, .int (nI n), .ref 0, .int (xs (n + 1)), .ref 66, .int x_r]) rfl rfl rfl ?_
  refine ev_x (i := .iadd) (len := 1) (p' := 158) (s' := [.int ((nI n) + 2), .ref 0, .int (xs (n + 1)), .ref 66, .int x_r]) rfl rfl rfl ?_
  refine ev_st (st' := [.int (nI (n + 2)), .ref 0, .int (xs (n + 1)), .ref 66, .int x_r]) (congrArg (fun z => Value.int z :: [.ref 0, .int (xs (n + 1)), .ref 66, .int x_r]) (nI_add n 2)) ?_
  refine ev_sg (p' := 159) rfl rfl hs1 (vp_in_nI (by omega) (by omega)) rfl ?_
  refine ev_st (st' := [.int (xs (n + 2)), .int (xs (n + 1)), .ref 66, .int x_r]) (congrArg (fun z => Value.int (xs z) :: [.int (xs (n + 1)), .ref 66, .int x_r]) (nI_clamp (n := n + 2) (by omega))) ?_
  refine ev_x (i := .aload_n 0) (len := 1) (p' := 160) (s' := [.ref 0, .int (xs (n + 2)), .int (xs (n + 1)), .ref 66, .int x_r]) rfl rfl rfl ?_
  refine ev_x (i := .iload 4) (len := 2) (p' := 162) (s' := [.int (nI n), .ref 0, .int (xs (n + 2)), .int (xs (n + 1)), .ref 66, .int x_r]) rfl rfl rfl ?_
  refine ev_x (i := .iconst 3) (len := 1) (p' := 163) (s' := [.int 3, .int (nI n), .ref 0, .int (xs (n + 2)), .int (xs (n + 1)), .ref 66, .int x_r]) rfl rfl rfl ?_
  refine ev_x (i := .iadd) (len := 1) (p' := 164) (s' := [.int ((nI n) + 3), .ref 0, .int (xs (n + 2)), .int (xs (n + 1)), .ref 66, .int x_r]) rfl rfl rfl ?_
  refine ev_st (st' := [.int (nI (n + 3)), .ref 0, .int (xs (n + 2)), .int (xs (n + 1)), .ref 66, .int x_r]) (congrArg (fun z => Value.int z :: [.ref 0, .int (xs (n + 2)), .int (xs (n + 1)), .ref 66, .int x_r]) (nI_add n 3)) ?_
  refine ev_sg (p' := 165) rfl rfl hs1 (vp_in_nI (by omega) (by omega)) rfl ?_
  refine ev_st (st' := [.int (xs (n + 3)), .int (xs (n + 2)), .int (xs (n + 1)), .ref 66, .int x_r]) (congrArg (fun z => Value.int (xs z) :: [.int (xs (n + 2)), .int (xs (n + 1)), .ref 66, .int x_r]) (nI_clamp (n := n + 3) (by omega))) ?_
  refine ev_x (i := .aload_n 0) (len := 1) (p' := 166) (s' := [.ref 0, .int (xs (n + 3)), .int (xs (n + 2)), .int (xs (n + 1)), .ref 66, .int x_r]) rfl rfl rfl ?_
  refine ev_x (i := .iload 4) (len := 2) (p' := 168) (s' := [.int (nI n), .ref 0, .int (xs (n + 3)), .int (xs (n + 2)), .int (xs (n + 1)), .ref 66, .int x_r]) rfl rfl rfl ?_
  refine ev_x (i := .iconst 4) (len := 1) (p' := 169) (s' := [.int 4, .int (nI n), .ref 0, .int (xs (n + 3)), .int (xs (n + 2)), .int (xs (n + 1)), .ref 66, .int x_r]) rfl rfl rfl ?_
  refine ev_x (i := .iadd) (len := 1) (p' := 170) (s' := [.int ((nI n) + 4), .ref 0, .int (xs (n + 3)), .int (xs (n + 2)), .int (xs (n + 1)), .ref 66, .int x_r]) rfl rfl rfl ?_
  refine ev_st (st' := [.int (nI (n + 4)), .ref 0, .int (xs (n + 3)), .int (xs (n + 2)), .int (xs (n + 1)), .ref 66, .int x_r]) (congrArg (fun z => Value.int z :: [.ref 0, .int (xs (n + 3)), .int (xs (n + 2)), .int (xs (n + 1)), .ref 66, .int x_r]) (nI_add n 4)) ?_
  refine ev_sg (p' := 171) rfl rfl hs1 (vp_in_nI (by omega) (by omega)) rfl ?_
  refine ev_st (st' := [.int (xs (n + 4)), .int (xs (n + 3)), .int (xs (n + 2)), .int (xs (n + 1)), .ref 66, .int x_r]) (congrArg (fun z => Value.int (xs z) :: [.int (xs (n + 3)), .int (xs (n + 2)), .int (xs (n + 1)), .ref 66, .int x_r]) (nI_clamp (n := n + 4) (by omega))) ?_
  refine ev_x (i := .aload_n 0) (len := 1) (p' := 172) (s' := [.ref 0, .int (xs (n + 4)), .int (xs (n + 3)), .int (xs (n + 2)), .int (xs (n + 1)), .ref 66, .int x_r]) rfl rfl rfl ?_
  refine ev_x (i := .iload 4) (len := 2) (p' := 174) (s' := [.int (nI n), .ref 0, .int (xs (n + 4)), .int (xs (n + 3)), .int (xs (n + 2)), .int (xs (n + 1)), .ref 66, .int x_r]) rfl rfl rfl ?_
  refine ev_x (i := .iconst 5) (len := 1) (p' := 175) (s' := [.int 5, .int (nI n), .ref 0, .int (xs (n + 4)), .int (xs (n + 3)), .int (xs (n + 2)), .int (xs (n + 1)), .ref 66, .int x_r]) rfl rfl rfl ?_
  refine ev_x (i := .iadd) (len := 1) (p' := 176) (s' := [.int ((nI n) + 5), .ref 0, .int (xs (n + 4)), .int (xs (n + 3)), .int (xs (n + 2)), .int (xs (n + 1)), .ref 66, .int x_r]) rfl rfl rfl ?_
  refine ev_st (st' := [.int (nI (n + 5)), .ref 0, .int (xs (n + 4)), .int (xs (n + 3)), .int (xs (n + 2)), .int (xs (n + 1)), .ref 66, .int x_r]) (congrArg (fun z => Value.int z :: [.ref 0, .int (xs (n + 4)), .int (xs (n + 3)), .int (xs (n + 2)), .int (xs (n + 1)), .ref 66, .int x_r]) (nI_add n 5)) ?_
  refine ev_sg (p' := 177) rfl rfl hs1 (vp_in_nI (by omega) (by omega)) rfl ?_
  refine ev_st (st' := [.int (xs (n + 5)), .int (xs (n + 4)), .int (xs (n + 3)), .int (xs (n + 2)), .int (xs (n + 1)), .ref 66, .int x_r]) (congrArg (fun z => Value.int (xs z) :: [.int (xs (n + 4)), .int (xs (n + 3)), .int (xs (n + 2)), .int (xs (n + 1)), .ref 66, .int x_r]) (nI_clamp (n := n + 5) (by omega))) ?_
  refine ev_cv (d := d + 10) (As := [.int (xs (n + 1)), .int (xs (n + 2)), .int (xs (n + 3)), .int (xs (n + 4)), .int (xs (n + 5))]) (a := 66) (p' := 180) rfl rfl rfl ly_66 rfl rfl rfl rfl rfl rfl rfl k_2 ?_
  refine ev_st (st' := [.int x_s, .int x_r]) rfl ?_
  refine ev_b2 (t := 615) (p' := 615) rfl rfl rfl (if_pos c_3) ?_
  exact k
