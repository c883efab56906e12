/-! the simple cases of the law, any store. Written by wip/prog/gen_simple2.py -/
set_option maxHeartbeats 4000000 in
set_option maxRecDepth 100000 in
/-- GameTextLaw.law([I)Z -/
theorem lw_3_a1 {d : Nat} {σ : st_S} {x_b x_k : Int32} {q : vz_O × vz_H} {n L : Nat} {xs : Nat → Int32} (hs : gF σ 0 = .inl (0, L, .inl xs)) (hn : n + 6 ≤ L) (hL : L ≤ 3072) (c_1 : (σ.1 1 9) = (σ.1 66 12)) (k : vz_ev P0 (d + 2) 0 615 [(4, .int (nI n)), (6, .int x_b), (5, .int x_k), (3, .ref 187), (2, .ref 66), (1, .ref 1), (0, .ref 0)] [] (hp (st_i (σ) 66 0 0)) q) : vz_ev P0 (d + 2) 0 254 [(4, .int (nI n)), (6, .int x_b), (5, .int x_k), (3, .ref 187), (2, .ref 66), (1, .ref 1), (0, .ref 0)] [] (hp σ) q := by
  refine ev_x (i := .aload_n 1) (len := 1) (p' := 255) (s' := [.ref 1]) rfl rfl rfl ?_
  refine ev_cv (d := d + 1) (As := []) (a := 1) (p' := 258) rfl rfl rfl ly_1 rfl rfl rfl rfl rfl rfl rfl (lz_34 (d := d + 0) ) ?_
  refine ev_st (st' := [.int (σ.1 1 9)]) rfl ?_
  refine ev_x (i := .aload_n 2) (len := 1) (p' := 259) (s' := [.ref 66, .int (σ.1 1 9)]) rfl rfl rfl ?_
  refine ev_cv (d := d + 1) (As := []) (a := 66) (p' := 262) rfl rfl rfl ly_66 rfl rfl rfl rfl rfl rfl rfl (lz_35 (d := d + 0) ) ?_
  refine ev_st (st' := [.int (σ.1 66 12), .int (σ.1 1 9)]) rfl ?_
  refine ev_b2 (t := 615) (p' := 615) rfl rfl rfl (if_pos c_1) ?_
  exact k
set_option maxHeartbeats 4000000 in
set_option maxRecDepth 100000 in
/-- GameTextLaw.law([I)Z -/
theorem lw_6_a1 {d : Nat} {σ : st_S} {x_b x_k : Int32} {q : vz_O × vz_H} {n L : Nat} {xs : Nat → Int32} (hs : gF σ 0 = .inl (0, L, .inl xs)) (hn : n + 6 ≤ L) (hL : L ≤ 3072) (c_1 : (σ.1 62 9) = (σ.1 66 30)) (k : vz_ev P0 (d + 2) 0 615 [(4, .int (nI n)), (6, .int x_b), (5, .int x_k), (3, .ref 187), (2, .ref 66), (1, .ref 1), (0, .ref 0)] [] (hp (st_i (σ) 66 0 0)) q) : vz_ev P0 (d + 2) 0 336 [(4, .int (nI n)), (6, .int x_b), (5, .int x_k), (3, .ref 187), (2, .ref 66), (1, .ref 1), (0, .ref 0)] [] (hp σ) q := by
  refine ev_x (i := .aload_n 1) (len := 1) (p' := 337) (s' := [.ref 1]) rfl rfl rfl ?_
  refine ev_cv (d := d + 1) (As := []) (a := 1) (p' := 340) rfl rfl rfl ly_1 rfl rfl rfl rfl rfl rfl rfl (lz_37 (d := d + 0) ) ?_
  refine ev_st (st' := [.int (σ.1 62 9)]) rfl ?_
  refine ev_x (i := .aload_n 2) (len := 1) (p' := 341) (s' := [.ref 66, .int (σ.1 62 9)]) rfl rfl rfl ?_
  refine ev_cv (d := d + 1) (As := []) (a := 66) (p' := 344) rfl rfl rfl ly_66 rfl rfl rfl rfl rfl rfl rfl (lz_38 (d := d + 0) ) ?_
  refine ev_st (st' := [.int (σ.1 66 30), .int (σ.1 62 9)]) rfl ?_
  refine ev_b2 (t := 615) (p' := 615) rfl rfl rfl (if_pos c_1) ?_
  exact k
set_option maxHeartbeats 4000000 in
set_option maxRecDepth 100000 in
/-- GameTextLaw.law([I)Z -/
theorem lw_7_a1 {d : Nat} {σ : st_S} {x_b x_k : Int32} {q : vz_O × vz_H} {n L : Nat} {xs : Nat → Int32} (hs : gF σ 0 = .inl (0, L, .inl xs)) (hn : n + 6 ≤ L) (hL : L ≤ 3072) (c_1 : (σ.1 52 10) = (σ.1 66 29)) (k : vz_ev P0 (d + 2) 0 615 [(4, .int (nI n)), (6, .int x_b), (5, .int x_k), (3, .ref 187), (2, .ref 66), (1, .ref 1), (0, .ref 0)] [] (hp (st_i (σ) 66 0 0)) q) : vz_ev P0 (d + 2) 0 349 [(4, .int (nI n)), (6, .int x_b), (5, .int x_k), (3, .ref 187), (2, .ref 66), (1, .ref 1), (0, .ref 0)] [] (hp σ) q := by
  refine ev_x (i := .aload_n 1) (len := 1) (p' := 350) (s' := [.ref 1]) rfl rfl rfl ?_
  refine ev_cv (d := d + 1) (As := []) (a := 1) (p' := 353) rfl rfl rfl ly_1 rfl rfl rfl rfl rfl rfl rfl (lz_40 (d := d + 0) ) ?_
  refine ev_st (st' := [.int (σ.1 52 10)]) rfl ?_
  refine ev_x (i := .aload_n 2) (len := 1) (p' := 354) (s' := [.ref 66, .int (σ.1 52 10)]) rfl rfl rfl ?_
  refine ev_cv (d := d + 1) (As := []) (a := 66) (p' := 357) rfl rfl rfl ly_66 rfl rfl rfl rfl rfl rfl rfl (lz_41 (d := d + 0) ) ?_
  refine ev_st (st' := [.int (σ.1 66 29), .int (σ.1 52 10)]) rfl ?_
  refine ev_b2 (t := 615) (p' := 615) rfl rfl rfl (if_pos c_1) ?_
  exact k
set_option maxHeartbeats 4000000 in
set_option maxRecDepth 100000 in
/-- GameTextLaw.law([I)Z -/
theorem lw_9n_a1 {d : Nat} {σ : st_S} {x_b x_k : Int32} {q : vz_O × vz_H} {n L : Nat} {xs : Nat → Int32} (hs : gF σ 0 = .inl (0, L, .inl xs)) (hn : n + 6 ≤ L) (hL : L ≤ 3072) (c_1 : (xs (n + 1)) < 0) (k : vz_ev P0 (d + 3) 0 615 [(4, .int (nI n)), (6, .int x_b), (5, .int x_k), (3, .ref 187), (2, .ref 66), (1, .ref 1), (0, .ref 0)] [] (hp (st_i (σ) 66 0 0)) q) : vz_ev P0 (d + 3) 0 430 [(4, .int (nI n)), (6, .int x_b), (5, .int x_k), (3, .ref 187), (2, .ref 66), (1, .ref 1), (0, .ref 0)] [] (hp σ) q := by
  refine ev_x (i := .aload_n 1) (len := 1) (p' := 431) (s' := [.ref 1]) rfl rfl rfl ?_
  refine ev_x (i := .aload_n 0) (len := 1) (p' := 432) (s' := [.ref 0, .ref 1]) rfl rfl rfl ?_
  refine ev_x (i := .iload 4) (len := 2) (p' := 434) (s' := [.int (nI n), .ref 0, .ref 1]) rfl rfl rfl ?_
  refine ev_x (i := .iconst 1) (len := 1) (p' := 435) (s' := [.int 1, .int (nI n), .ref 0, .ref 1]) rfl rfl rfl ?_
  refine ev_x (i := .iadd) (len := 1) (p' := 436) (s' := [.int ((nI n) + 1), .ref 0, .ref 1]) rfl rfl rfl ?_
  refine ev_st (st' := [.int (nI (n + 1)), .ref 0, .ref 1]) (congrArg (fun z => Value.int z :: [.ref 0, .ref 1]) (nI_add n 1)) ?_
  refine ev_sg (p' := 437) rfl rfl hs (vp_in_nI (by omega) (by omega)) rfl ?_
  refine ev_st (st' := [.int (xs (n + 1)), .ref 1]) (congrArg (fun z => Value.int (xs z) :: [.ref 1]) (nI_clamp (n := n + 1) (by omega))) ?_
  refine ev_cv (d := d + 2) (As := [.int (xs (n + 1))]) (a := 1) (p' := 440) rfl rfl rfl ly_1 rfl rfl rfl rfl rfl rfl rfl (lz_44 (d := d + 0) (c_1 := c_1)) ?_
  refine ev_st (st' := [.int (-1)]) rfl ?_
  refine ev_x (i := .aload_n 2) (len := 1) (p' := 441) (s' := [.ref 66, .int (-1)]) rfl rfl rfl ?_
  refine ev_x (i := .aload_n 0) (len := 1) (p' := 442) (s' := [.ref 0, .ref 66, .int (-1)]) rfl rfl rfl ?_
  refine ev_x (i := .iload 4) (len := 2) (p' := 444) (s' := [.int (nI n), .ref 0, .ref 66, .int (-1)]) rfl rfl rfl ?_
  refine ev_x (i := .iconst 1) (len := 1) (p' := 445) (s' := [.int 1, .int (nI n), .ref 0, .ref 66, .int (-1)]) rfl rfl rfl ?_
  refine ev_x (i := .iadd) (len := 1) (p' := 446) (s' := [.int ((nI n) + 1), .ref 0, .ref 66, .int (-1)]) rfl rfl rfl ?_
  refine ev_st (st' := [.int (nI (n + 1)), .ref 0, .ref 66, .int (-1)]) (congrArg (fun z => Value.int z :: [.ref 0, .ref 66, .int (-1)]) (nI_add n 1)) ?_
  refine ev_sg (p' := 447) rfl rfl hs (vp_in_nI (by omega) (by omega)) rfl ?_
  refine ev_st (st' := [.int (xs (n + 1)), .ref 66, .int (-1)]) (congrArg (fun z => Value.int (xs z) :: [.ref 66, .int (-1)]) (nI_clamp (n := n + 1) (by omega))) ?_
  refine ev_cv (d := d + 2) (As := [.int (xs (n + 1))]) (a := 66) (p' := 450) rfl rfl rfl ly_66 rfl rfl rfl rfl rfl rfl rfl (lz_46 (d := d + 0) (c_1 := c_1)) ?_
  refine ev_st (st' := [.int (-1), .int (-1)]) rfl ?_
  refine ev_b2 (t := 615) (p' := 615) rfl rfl rfl (by decide) ?_
  exact k
set_option maxHeartbeats 4000000 in
set_option maxRecDepth 100000 in
/-- GameTextLaw.law([I)Z -/
theorem lw_9g_a1 {d : Nat} {σ : st_S} {x_b x_k : Int32} {q : vz_O × vz_H} {n L : Nat} {xs : Nat → Int32} (hs : gF σ 0 = .inl (0, L, .inl xs)) (hn : n + 6 ≤ L) (hL : L ≤ 3072) (c_1 : ¬ ((xs (n + 1)) < 0)) (c_2 : (σ.1 52 10) ≤ (xs (n + 1))) (c_3 : (σ.1 66 29) ≤ (xs (n + 1))) (k : vz_ev P0 (d + 3) 0 615 [(4, .int (nI n)), (6, .int x_b), (5, .int x_k), (3, .ref 187), (2, .ref 66), (1, .ref 1), (0, .ref 0)] [] (hp (st_i (σ) 66 0 0)) q) : vz_ev P0 (d + 3) 0 430 [(4, .int (nI n)), (6, .int x_b), (5, .int x_k), (3, .ref 187), (2, .ref 66), (1, .ref 1), (0, .ref 0)] [] (hp σ) q := by
  refine ev_x (i := .aload_n 1) (len := 1) (p' := 431) (s' := [.ref 1]) rfl rfl rfl ?_
  refine ev_x (i := .aload_n 0) (len := 1) (p' := 432) (s' := [.ref 0, .ref 1]) rfl rfl rfl ?_
  refine ev_x (i := .iload 4) (len := 2) (p' := 434) (s' := [.int (nI n), .ref 0, .ref 1]) rfl rfl rfl ?_
  refine ev_x (i := .iconst 1) (len := 1) (p' := 435) (s' := [.int 1, .int (nI n), .ref 0, .ref 1]) rfl rfl rfl ?_
  refine ev_x (i := .iadd) (len := 1) (p' := 436) (s' := [.int ((nI n) + 1), .ref 0, .ref 1]) rfl rfl rfl ?_
  refine ev_st (st' := [.int (nI (n + 1)), .ref 0, .ref 1]) (congrArg (fun z => Value.int z :: [.ref 0, .ref 1]) (nI_add n 1)) ?_
  refine ev_sg (p' := 437) rfl rfl hs (vp_in_nI (by omega) (by omega)) rfl ?_
  refine ev_st (st' := [.int (xs (n + 1)), .ref 1]) (congrArg (fun z => Value.int (xs z) :: [.ref 1]) (nI_clamp (n := n + 1) (by omega))) ?_
  refine ev_cv (d := d + 2) (As := [.int (xs (n + 1))]) (a := 1) (p' := 440) rfl rfl rfl ly_1 rfl rfl rfl rfl rfl rfl rfl (lz_49 (d := d + 0) (c_1 := c_1) (c_2 := c_2)) ?_
  refine ev_st (st' := [.int (-1)]) rfl ?_
  refine ev_x (i := .aload_n 2) (len := 1) (p' := 441) (s' := [.ref 66, .int (-1)]) rfl rfl rfl ?_
  refine ev_x (i := .aload_n 0) (len := 1) (p' := 442) (s' := [.ref 0, .ref 66, .int (-1)]) rfl rfl rfl ?_
  refine ev_x (i := .iload 4) (len := 2) (p' := 444) (s' := [.int (nI n), .ref 0, .ref 66, .int (-1)]) rfl rfl rfl ?_
  refine ev_x (i := .iconst 1) (len := 1) (p' := 445) (s' := [.int 1, .int (nI n), .ref 0, .ref 66, .int (-1)]) rfl rfl rfl ?_
  refine ev_x (i := .iadd) (len := 1) (p' := 446) (s' := [.int ((nI n) + 1), .ref 0, .ref 66, .int (-1)]) rfl rfl rfl ?_
  refine ev_st (st' := [.int (nI (n + 1)), .ref 0, .ref 66, .int (-1)]) (congrArg (fun z => Value.int z :: [.ref 0, .ref 66, .int (-1)]) (nI_add n 1)) ?_
  refine ev_sg (p' := 447) rfl rfl hs (vp_in_nI (by omega) (by omega)) rfl ?_
  refine ev_st (st' := [.int (xs (n + 1)), .ref 66, .int (-1)]) (congrArg (fun z => Value.int (xs z) :: [.ref 66, .int (-1)]) (nI_clamp (n := n + 1) (by omega))) ?_
  refine ev_cv (d := d + 2) (As := [.int (xs (n + 1))]) (a := 66) (p' := 450) rfl rfl rfl ly_66 rfl rfl rfl rfl rfl rfl rfl (lz_51 (d := d + 0) (c_1 := c_1) (c_2 := c_3)) ?_
  refine ev_st (st' := [.int (-1), .int (-1)]) rfl ?_
  refine ev_b2 (t := 615) (p' := 615) rfl rfl rfl (by decide) ?_
  exact k
set_option maxHeartbeats 4000000 in
set_option maxRecDepth 100000 in
/-- GameTextLaw.law([I)Z -/
theorem lw_9o_a1 {d : Nat} {σ : st_S} {x_b x_k : Int32} {q : vz_O × vz_H} {n L : Nat} {xs : Nat → Int32} (hs : gF σ 0 = .inl (0, L, .inl xs)) (hn : n + 6 ≤ L) (hL : L ≤ 3072) (c_1 : ¬ ((xs (n + 1)) < 0)) (c_2 : ¬ ((σ.1 52 10) ≤ (xs (n + 1)))) (c_3 : vp_in (xs (n + 1)) (gN σ 55)) (c_4 : ¬ ((σ.1 66 29) ≤ (xs (n + 1)))) (c_5 : vp_in (xs (n + 1)) (gN σ 172)) (c_6 : (gE σ 55 (((xs (n + 1))).toNatClampNeg)) = (gE σ 172 (((xs (n + 1))).toNatClampNeg))) (k : vz_ev P0 (d + 3) 0 615 [(4, .int (nI n)), (6, .int x_b), (5, .int x_k), (3, .ref 187), (2, .ref 66), (1, .ref 1), (0, .ref 0)] [] (hp (st_i (σ) 66 0 0)) q) : vz_ev P0 (d + 3) 0 430 [(4, .int (nI n)), (6, .int x_b), (5, .int x_k), (3, .ref 187), (2, .ref 66), (1, .ref 1), (0, .ref 0)] [] (hp σ) q := by
  refine ev_x (i := .aload_n 1) (len := 1) (p' := 431) (s' := [.ref 1]) rfl rfl rfl ?_
  refine ev_x (i := .aload_n 0) (len := 1) (p' := 432) (s' := [.ref 0, .ref 1]) rfl rfl rfl ?_
  refine ev_x (i := .iload 4) (len := 2) (p' := 434) (s' := [.int (nI n), .ref 0, .ref 1]) rfl rfl rfl ?_
  refine ev_x (i := .iconst 1) (len := 1) (p' := 435) (s' := [.int 1, .int (nI n), .ref 0, .ref 1]) rfl rfl rfl ?_
  refine ev_x (i := .iadd) (len := 1) (p' := 436) (s' := [.int ((nI n) + 1), .ref 0, .ref 1]) rfl rfl rfl ?_
  refine ev_st (st' := [.int (nI (n + 1)), .ref 0, .ref 1]) (congrArg (fun z => Value.int z :: [.ref 0, .ref 1]) (nI_add n 1)) ?_
  refine ev_sg (p' := 437) rfl rfl hs (vp_in_nI (by omega) (by omega)) rfl ?_
  refine ev_st (st' := [.int (xs (n + 1)), .ref 1]) (congrArg (fun z => Value.int (xs z) :: [.ref 1]) (nI_clamp (n := n + 1) (by omega))) ?_
  refine ev_cv (d := d + 2) (As := [.int (xs (n + 1))]) (a := 1) (p' := 440) rfl rfl rfl ly_1 rfl rfl rfl rfl rfl rfl rfl (lz_54 (d := d + 0) (c_1 := c_1) (c_2 := c_2) (c_3 := c_3)) ?_
  refine ev_st (st' := [.int (gE σ 55 (((xs (n + 1))).toNatClampNeg))]) rfl ?_
  refine ev_x (i := .aload_n 2) (len := 1) (p' := 441) (s' := [.ref 66, .int (gE σ 55 (((xs (n + 1))).toNatClampNeg))]) rfl rfl rfl ?_
  refine ev_x (i := .aload_n 0) (len := 1) (p' := 442) (s' := [.ref 0, .ref 66, .int (gE σ 55 (((xs (n + 1))).toNatClampNeg))]) rfl rfl rfl ?_
  refine ev_x (i := .iload 4) (len := 2) (p' := 444) (s' := [.int (nI n), .ref 0, .ref 66, .int (gE σ 55 (((xs (n + 1))).toNatClampNeg))]) rfl rfl rfl ?_
  refine ev_x (i := .iconst 1) (len := 1) (p' := 445) (s' := [.int 1, .int (nI n), .ref 0, .ref 66, .int (gE σ 55 (((xs (n + 1))).toNatClampNeg))]) rfl rfl rfl ?_
  refine ev_x (i := .iadd) (len := 1) (p' := 446) (s' := [.int ((nI n) + 1), .ref 0, .ref 66, .int (gE σ 55 (((xs (n + 1))).toNatClampNeg))]) rfl rfl rfl ?_
  refine ev_st (st' := [.int (nI (n + 1)), .ref 0, .ref 66, .int (gE σ 55 (((xs (n + 1))).toNatClampNeg))]) (congrArg (fun z => Value.int z :: [.ref 0, .ref 66, .int (gE σ 55 (((xs (n + 1))).toNatClampNeg))]) (nI_add n 1)) ?_
  refine ev_sg (p' := 447) rfl rfl hs (vp_in_nI (by omega) (by omega)) rfl ?_
  refine ev_st (st' := [.int (xs (n + 1)), .ref 66, .int (gE σ 55 (((xs (n + 1))).toNatClampNeg))]) (congrArg (fun z => Value.int (xs z) :: [.ref 66, .int (gE σ 55 (((xs (n + 1))).toNatClampNeg))]) (nI_clamp (n := n + 1) (by omega))) ?_
  refine ev_cv (d := d + 2) (As := [.int (xs (n + 1))]) (a := 66) (p' := 450) rfl rfl rfl ly_66 rfl rfl rfl rfl rfl rfl rfl (lz_56 (d := d + 0) (c_1 := c_1) (c_2 := c_4) (c_3 := c_5)) ?_
  refine ev_st (st' := [.int (gE σ 172 (((xs (n + 1))).toNatClampNeg)), .int (gE σ 55 (((xs (n + 1))).toNatClampNeg))]) rfl ?_
  refine ev_b2 (t := 615) (p' := 615) rfl rfl rfl (if_pos c_6) ?_
  exact k
set_option maxHeartbeats 4000000 in
set_option maxRecDepth 100000 in
/-- GameTextLaw.law([I)Z -/
theorem lw_10n_a1 {d : Nat} {σ : st_S} {x_b x_k : Int32} {q : vz_O × vz_H} {n L : Nat} {xs : Nat → Int32} (hs : gF σ 0 = .inl (0, L, .inl xs)) (hn : n + 6 ≤ L) (hL : L ≤ 3072) (c_1 : (xs (n + 1)) < 0) (k : vz_ev P0 (d + 3) 0 615 [(4, .int (nI n)), (6, .int x_b), (5, .int x_k), (3, .ref 187), (2, .ref 66), (1, .ref 1), (0, .ref 0)] [] (hp (st_i (σ) 66 0 0)) q) : vz_ev P0 (d + 3) 0 455 [(4, .int (nI n)), (6, .int x_b), (5, .int x_k), (3, .ref 187), (2, .ref 66), (1, .ref 1), (0, .ref 0)] [] (hp σ) q := by
  refine ev_x (i := .aload_n 1) (len := 1) (p' := 456) (s' := [.ref 1]) rfl rfl rfl ?_
  refine ev_x (i := .aload_n 0) (len := 1) (p' := 457) (s' := [.ref 0, .ref 1]) rfl rfl rfl ?_
  refine ev_x (i := .iload 4) (len := 2) (p' := 459) (s' := [.int (nI n), .ref 0, .ref 1]) rfl rfl rfl ?_
  refine ev_x (i := .iconst 1) (len := 1) (p' := 460) (s' := [.int 1, .int (nI n), .ref 0, .ref 1]) rfl rfl rfl ?_
  refine ev_x (i := .iadd) (len := 1) (p' := 461) (s' := [.int ((nI n) + 1), .ref 0, .ref 1]) rfl rfl rfl ?_
  refine ev_st (st' := [.int (nI (n + 1)), .ref 0, .ref 1]) (congrArg (fun z => Value.int z :: [.ref 0, .ref 1]) (nI_add n 1)) ?_
  refine ev_sg (p' := 462) rfl rfl hs (vp_in_nI (by omega) (by omega)) rfl ?_
  refine ev_st (st' := [.int (xs (n + 1)), .ref 1]) (congrArg (fun z => Value.int (xs z) :: [.ref 1]) (nI_clamp (n := n + 1) (by omega))) ?_
  refine ev_cv (d := d + 2) (As := [.int (xs (n + 1))]) (a := 1) (p' := 465) rfl rfl rfl ly_1 rfl rfl rfl rfl rfl rfl rfl (lz_59 (d := d + 0) (c_1 := c_1)) ?_
  refine ev_st (st' := [.int (-1)]) rfl ?_
  refine ev_x (i := .aload_n 2) (len := 1) (p' := 466) (s' := [.ref 66, .int (-1)]) rfl rfl rfl ?_
  refine ev_x (i := .aload_n 0) (len := 1) (p' := 467) (s' := [.ref 0, .ref 66, .int (-1)]) rfl rfl rfl ?_
  refine ev_x (i := .iload 4) (len := 2) (p' := 469) (s' := [.int (nI n), .ref 0, .ref 66, .int (-1)]) rfl rfl rfl ?_
  refine ev_x (i := .iconst 1) (len := 1) (p' := 470) (s' := [.int 1, .int (nI n), .ref 0, .ref 66, .int (-1)]) rfl rfl rfl ?_
  refine ev_x (i := .iadd) (len := 1) (p' := 471) (s' := [.int ((nI n) + 1), .ref 0, .ref 66, .int (-1)]) rfl rfl rfl ?_
  refine ev_st (st' := [.int (nI (n + 1)), .ref 0, .ref 66, .int (-1)]) (congrArg (fun z => Value.int z :: [.ref 0, .ref 66, .int (-1)]) (nI_add n 1)) ?_
  refine ev_sg (p' := 472) rfl rfl hs (vp_in_nI (by omega) (by omega)) rfl ?_
  refine ev_st (st' := [.int (xs (n + 1)), .ref 66, .int (-1)]) (congrArg (fun z => Value.int (xs z) :: [.ref 66, .int (-1)]) (nI_clamp (n := n + 1) (by omega))) ?_
  refine ev_cv (d := d + 2) (As := [.int (xs (n + 1))]) (a := 66) (p' := 475) rfl rfl rfl ly_66 rfl rfl rfl rfl rfl rfl rfl (lz_61 (d := d + 0) (c_1 := c_1)) ?_
  refine ev_st (st' := [.int (-1), .int (-1)]) rfl ?_
  refine ev_b2 (t := 615) (p' := 615) rfl rfl rfl (by decide) ?_
  exact k
set_option maxHeartbeats 4000000 in
set_option maxRecDepth 100000 in
/-- GameTextLaw.law([I)Z -/
theorem lw_10g_a1 {d : Nat} {σ : st_S} {x_b x_k : Int32} {q : vz_O × vz_H} {n L : Nat} {xs : Nat → Int32} (hs : gF σ 0 = .inl (0, L, .inl xs)) (hn : n + 6 ≤ L) (hL : L ≤ 3072) (c_1 : ¬ ((xs (n + 1)) < 0)) (c_2 : (σ.1 52 10) ≤ (xs (n + 1))) (c_3 : (σ.1 66 29) ≤ (xs (n + 1))) (k : vz_ev P0 (d + 3) 0 615 [(4, .int (nI n)), (6, .int x_b), (5, .int x_k), (3, .ref 187), (2, .ref 66), (1, .ref 1), (0, .ref 0)] [] (hp (st_i (σ) 66 0 0)) q) : vz_ev P0 (d + 3) 0 455 [(4, .int (nI n)), (6, .int x_b), (5, .int x_k), (3, .ref 187), (2, .ref 66), (1, .ref 1), (0, .ref 0)] [] (hp σ) q := by
  refine ev_x (i := .aload_n 1) (len := 1) (p' := 456) (s' := [.ref 1]) rfl rfl rfl ?_
  refine ev_x (i := .aload_n 0) (len := 1) (p' := 457) (s' := [.ref 0, .ref 1]) rfl rfl rfl ?_
  refine ev_x (i := .iload 4) (len := 2) (p' := 459) (s' := [.int (nI n), .ref 0, .ref 1]) rfl rfl rfl ?_
  refine ev_x (i := .iconst 1) (len := 1) (p' := 460) (s' := [.int 1, .int (nI n), .ref 0, .ref 1]) rfl rfl rfl ?_
  refine ev_x (i := .iadd) (len := 1) (p' := 461) (s' := [.int ((nI n) + 1), .ref 0, .ref 1]) rfl rfl rfl ?_
  refine ev_st (st' := [.int (nI (n + 1)), .ref 0, .ref 1]) (congrArg (fun z => Value.int z :: [.ref 0, .ref 1]) (nI_add n 1)) ?_
  refine ev_sg (p' := 462) rfl rfl hs (vp_in_nI (by omega) (by omega)) rfl ?_
  refine ev_st (st' := [.int (xs (n + 1)), .ref 1]) (congrArg (fun z => Value.int (xs z) :: [.ref 1]) (nI_clamp (n := n + 1) (by omega))) ?_
  refine ev_cv (d := d + 2) (As := [.int (xs (n + 1))]) (a := 1) (p' := 465) rfl rfl rfl ly_1 rfl rfl rfl rfl rfl rfl rfl (lz_64 (d := d + 0) (c_1 := c_1) (c_2 := c_2)) ?_
  refine ev_st (st' := [.int (-1)]) rfl ?_
  refine ev_x (i := .aload_n 2) (len := 1) (p' := 466) (s' := [.ref 66, .int (-1)]) rfl rfl rfl ?_
  refine ev_x (i := .aload_n 0) (len := 1) (p' := 467) (s' := [.ref 0, .ref 66, .int (-1)]) rfl rfl rfl ?_
  refine ev_x (i := .iload 4) (len := 2) (p' := 469) (s' := [.int (nI n), .ref 0, .ref 66, .int (-1)]) rfl rfl rfl ?_
  refine ev_x (i := .iconst 1) (len := 1) (p' := 470) (s' := [.int 1, .int (nI n), .ref 0, .ref 66, .int (-1)]) rfl rfl rfl ?_
  refine ev_x (i := .iadd) (len := 1) (p' := 471) (s' := [.int ((nI n) + 1), .ref 0, .ref 66, .int (-1)]) rfl rfl rfl ?_
  refine ev_st (st' := [.int (nI (n + 1)), .ref 0, .ref 66, .int (-1)]) (congrArg (fun z => Value.int z :: [.ref 0, .ref 66, .int (-1)]) (nI_add n 1)) ?_
  refine ev_sg (p' := 472) rfl rfl hs (vp_in_nI (by omega) (by omega)) rfl ?_
  refine ev_st (st' := [.int (xs (n + 1)), .ref 66, .int (-1)]) (congrArg (fun z => Value.int (xs z) :: [.ref 66, .int (-1)]) (nI_clamp (n := n + 1) (by omega))) ?_
  refine ev_cv (d := d + 2) (As := [.int (xs (n + 1))]) (a := 66) (p' := 475) rfl rfl rfl ly_66 rfl rfl rfl rfl rfl rfl rfl (lz_66 (d := d + 0) (c_1 := c_1) (c_2 := c_3)) ?_
  refine ev_st (st' := [.int (-1), .int (-1)]) rfl ?_
  refine ev_b2 (t := 615) (p' := 615) rfl rfl rfl (by decide) ?_
  exact k
set_option maxHeartbeats 4000000 in
set_option maxRecDepth 100000 in
/-- GameTextLaw.law([I)Z -/
theorem lw_10o_a1 {d : Nat} {σ : st_S} {x_b x_k : Int32} {q : vz_O × vz_H} {n L : Nat} {xs : Nat → Int32} (hs : gF σ 0 = .inl (0, L, .inl xs)) (hn : n + 6 ≤ L) (hL : L ≤ 3072) (c_1 : ¬ ((xs (n + 1)) < 0)) (c_2 : ¬ ((σ.1 52 10) ≤ (xs (n + 1)))) (c_3 : vp_in ((xs (n + 1)) + 1) (gN σ 56)) (c_4 : vp_in (xs (n + 1)) (gN σ 56)) (c_5 : ¬ ((σ.1 66 29) ≤ (xs (n + 1)))) (c_6 : vp_in (xs (n + 1)) (gN σ 174)) (c_7 : ((gE σ 56 ((((xs (n + 1)) + 1)).toNatClampNeg)) - (gE σ 56 (((xs (n + 1))).toNatClampNeg))) = (gE σ 174 (((xs (n + 1))).toNatClampNeg))) (k : vz_ev P0 (d + 3) 0 615 [(4, .int (nI n)), (6, .int x_b), (5, .int x_k), (3, .ref 187), (2, .ref 66), (1, .ref 1), (0, .ref 0)] [] (hp (st_i (σ) 66 0 0)) q) : vz_ev P0 (d + 3) 0 455 [(4, .int (nI n)), (6, .int x_b), (5, .int x_k), (3, .ref 187), (2, .ref 66), (1, .ref 1), (0, .ref 0)] [] (hp σ) q := by
  refine ev_x (i := .aload_n 1) (len := 1) (p' := 456) (s' := [.ref 1]) rfl rfl rfl ?_
  refine ev_x (i := .aload_n 0) (len := 1) (p' := 457) (s' := [.ref 0, .ref 1]) rfl rfl rfl ?_
  refine ev_x (i := .iload 4) (len := 2) (p' := 459) (s' := [.int (nI n), .ref 0, .ref 1]) rfl rfl rfl ?_
  refine ev_x (i := .iconst 1) (len := 1) (p' := 460) (s' := [.int 1, .int (nI n), .ref 0, .ref 1]) rfl rfl rfl ?_
  refine ev_x (i := .iadd) (len := 1) (p' := 461) (s' := [.int ((nI n) + 1), .ref 0, .ref 1]) rfl rfl rfl ?_
  refine ev_st (st' := [.int (nI (n + 1)), .ref 0, .ref 1]) (congrArg (fun z => Value.int z :: [.ref 0, .ref 1]) (nI_add n 1)) ?_
  refine ev_sg (p' := 462) rfl rfl hs (vp_in_nI (by omega) (by omega)) rfl ?_
  refine ev_st (st' := [.int (xs (n + 1)), .ref 1]) (congrArg (fun z => Value.int (xs z) :: [.ref 1]) (nI_clamp (n := n + 1) (by omega))) ?_
  refine ev_cv (d := d + 2) (As := [.int (xs (n + 1))]) (a := 1) (p' := 465) rfl rfl rfl ly_1 rfl rfl rfl rfl rfl rfl rfl (lz_69 (d := d + 0) (c_1 := c_1) (c_2 := c_2) (c_3 := c_3) (c_4 := c_4)) ?_
  refine ev_st (st' := [.int ((gE σ 56 ((((xs (n + 1)) + 1)).toNatClampNeg)) - (gE σ 56 (((xs (n + 1))).toNatClampNeg)))]) rfl ?_
  refine ev_x (i := .aload_n 2) (len := 1) (p' := 466) (s' := [.ref 66, .int ((gE σ 56 ((((xs (n + 1)) + 1)).toNatClampNeg)) - (gE σ 56 (((xs (n + 1))).toNatClampNeg)))]) rfl rfl rfl ?_
  refine ev_x (i := .aload_n 0) (len := 1) (p' := 467) (s' := [.ref 0, .ref 66, .int ((gE σ 56 ((((xs (n + 1)) + 1)).toNatClampNeg)) - (gE σ 56 (((xs (n + 1))).toNatClampNeg)))]) rfl rfl rfl ?_
  refine ev_x (i := .iload 4) (len := 2) (p' := 469) (s' := [.int (nI n), .ref 0, .ref 66, .int ((gE σ 56 ((((xs (n + 1)) + 1)).toNatClampNeg)) - (gE σ 56 (((xs (n + 1))).toNatClampNeg)))]) rfl rfl rfl ?_
  refine ev_x (i := .iconst 1) (len := 1) (p' := 470) (s' := [.int 1, .int (nI n), .ref 0, .ref 66, .int ((gE σ 56 ((((xs (n + 1)) + 1)).toNatClampNeg)) - (gE σ 56 (((xs (n + 1))).toNatClampNeg)))]) rfl rfl rfl ?_
  refine ev_x (i := .iadd) (len := 1) (p' := 471) (s' := [.int ((nI n) + 1), .ref 0, .ref 66, .int ((gE σ 56 ((((xs (n + 1)) + 1)).toNatClampNeg)) - (gE σ 56 (((xs (n + 1))).toNatClampNeg)))]) rfl rfl rfl ?_
  refine ev_st (st' := [.int (nI (n + 1)), .ref 0, .ref 66, .int ((gE σ 56 ((((xs (n + 1)) + 1)).toNatClampNeg)) - (gE σ 56 (((xs (n + 1))).toNatClampNeg)))]) (congrArg (fun z => Value.int z :: [.ref 0, .ref 66, .int ((gE σ 56 ((((xs (n + 1)) + 1)).toNatClampNeg)) - (gE σ 56 (((xs (n + 1))).toNatClampNeg)))]) (nI_add n 1)) ?_
  refine ev_sg (p' := 472) rfl rfl hs (vp_in_nI (by omega) (by omega)) rfl ?_
  refine ev_st (st' := [.int (xs (n + 1)), .ref 66, .int ((gE σ 56 ((((xs (n + 1)) + 1)).toNatClampNeg)) - (gE σ 56 (((xs (n + 1))).toNatClampNeg)))]) (congrArg (fun z => Value.int (xs z) :: [.ref 66, .int ((gE σ 56 ((((xs (n + 1)) + 1)).toNatClampNeg)) - (gE σ 56 (((xs (n + 1))).toNatClampNeg)))]) (nI_clamp (n := n + 1) (by omega))) ?_
  refine ev_cv (d := d + 2) (As := [.int (xs (n + 1))]) (a := 66) (p' := 475) rfl rfl rfl ly_66 rfl rfl rfl rfl rfl rfl rfl (lz_71 (d := d + 0) (c_1 := c_1) (c_2 := c_5) (c_3 := c_6)) ?_
  refine ev_st (st' := [.int (gE σ 174 (((xs (n + 1))).toNatClampNeg)), .int ((gE σ 56 ((((xs (n + 1)) + 1)).toNatClampNeg)) - (gE σ 56 (((xs (n + 1))).toNatClampNeg)))]) rfl ?_
  refine ev_b2 (t := 615) (p' := 615) rfl rfl rfl (if_pos c_7) ?_
  exact k
set_option maxHeartbeats 4000000 in
set_option maxRecDepth 100000 in
/-- GameTextLaw.law([I)Z -/
theorem lw_11n_a1 {d : Nat} {σ : st_S} {x_b x_k : Int32} {q : vz_O × vz_H} {n L : Nat} {xs : Nat → Int32} (hs : gF σ 0 = .inl (0, L, .inl xs)) (hn : n + 6 ≤ L) (hL : L ≤ 3072) (c_1 : (xs (n + 1)) < 0) (k : vz_ev P0 (d + 4) 0 615 [(4, .int (nI n)), (6, .int x_b), (5, .int x_k), (3, .ref 187), (2, .ref 66), (1, .ref 1), (0, .ref 0)] [] (hp (st_i (σ) 66 0 0)) q) : vz_ev P0 (d + 4) 0 480 [(4, .int (nI n)), (6, .int x_b), (5, .int x_k), (3, .ref 187), (2, .ref 66), (1, .ref 1), (0, .ref 0)] [] (hp σ) q := by
  refine ev_x (i := .aload_n 1) (len := 1) (p' := 481) (s' := [.ref 1]) rfl rfl rfl ?_
  refine ev_x (i := .aload_n 0) (len := 1) (p' := 482) (s' := [.ref 0, .ref 1]) rfl rfl rfl ?_
  refine ev_x (i := .iload 4) (len := 2) (p' := 484) (s' := [.int (nI n), .ref 0, .ref 1]) rfl rfl rfl ?_
  refine ev_x (i := .iconst 1) (len := 1) (p' := 485) (s' := [.int 1, .int (nI n), .ref 0, .ref 1]) rfl rfl rfl ?_
  refine ev_x (i := .iadd) (len := 1) (p' := 486) (s' := [.int ((nI n) + 1), .ref 0, .ref 1]) rfl rfl rfl ?_
  refine ev_st (st' := [.int (nI (n + 1)), .ref 0, .ref 1]) (congrArg (fun z => Value.int z :: [.ref 0, .ref 1]) (nI_add n 1)) ?_
  refine ev_sg (p' := 487) rfl rfl hs (vp_in_nI (by omega) (by omega)) rfl ?_
  refine ev_st (st' := [.int (xs (n + 1)), .ref 1]) (congrArg (fun z => Value.int (xs z) :: [.ref 1]) (nI_clamp (n := n + 1) (by omega))) ?_
  refine ev_x (i := .aload_n 0) (len := 1) (p' := 488) (s' := [.ref 0, .int (xs (n + 1)), .ref 1]) rfl rfl rfl ?_
  refine ev_x (i := .iload 4) (len := 2) (p' := 490) (s' := [.int (nI n), .ref 0, .int (xs (n + 1)), .ref 1]) rfl rfl rfl ?_
  refine ev_x (i := .iconst 2) (len := 1) (p' := 491) (s' := [.int 2, .int (nI n), .ref 0, .int (xs (n + 1)), .ref 1]) rfl rfl rfl ?_
  refine ev_x (i := .iadd) (len := 1) (p' := 492) (s' := [.int ((nI n) + 2), .ref 0, .int (xs (n + 1)), .ref 1]) rfl rfl rfl ?_
  refine ev_st (st' := [.int (nI (n + 2)), .ref 0, .int (xs (n + 1)), .ref 1]) (congrArg (fun z => Value.int z :: [.ref 0, .int (xs (n + 1)), .ref 1]) (nI_add n 2)) ?_
  refine ev_sg (p' := 493) rfl rfl hs (vp_in_nI (by omega) (by omega)) rfl ?_
  refine ev_st (st' := [.int (xs (n + 2)), .int (xs (n + 1)), .ref 1]) (congrArg (fun z => Value.int (xs z) :: [.int (xs (n + 1)), .ref 1]) (nI_clamp (n := n + 2) (by omega))) ?_
  refine ev_cv (d := d + 3) (As := [.int (xs (n + 1)), .int (xs (n + 2))]) (a := 1) (p' := 496) rfl rfl rfl ly_1 rfl rfl rfl rfl rfl rfl rfl (lz_75 (d := d + 0) (c_1 := c_1)) ?_
  refine ev_st (st' := [.int (-1)]) rfl ?_
  refine ev_x (i := .aload_n 2) (len := 1) (p' := 497) (s' := [.ref 66, .int (-1)]) rfl rfl rfl ?_
  refine ev_x (i := .aload_n 0) (len := 1) (p' := 498) (s' := [.ref 0, .ref 66, .int (-1)]) rfl rfl rfl ?_
  refine ev_x (i := .iload 4) (len := 2) (p' := 500) (s' := [.int (nI n), .ref 0, .ref 66, .int (-1)]) rfl rfl rfl ?_
  refine ev_x (i := .iconst 1) (len := 1) (p' := 501) (s' := [.int 1, .int (nI n), .ref 0, .ref 66, .int (-1)]) rfl rfl rfl ?_
  refine ev_x (i := .iadd) (len := 1) (p' := 502) (s' := [.int ((nI n) + 1), .ref 0, .ref 66, .int (-1)]) rfl rfl rfl ?_
  refine ev_st (st' := [.int (nI (n + 1)), .ref 0, .ref 66, .int (-1)]) (congrArg (fun z => Value.int z :: [.ref 0, .ref 66, .int (-1)]) (nI_add n 1)) ?_
  refine ev_sg (p' := 503) rfl rfl hs (vp_in_nI (by omega) (by omega)) rfl ?_
  refine ev_st (st' := [.int (xs (n + 1)), .ref 66, .int (-1)]) (congrArg (fun z => Value.int (xs z) :: [.ref 66, .int (-1)]) (nI_clamp (n := n + 1) (by omega))) ?_
  refine ev_x (i := .aload_n 0) (len := 1) (p' := 504) (s' := [.ref 0, .int (xs (n + 1)), .ref 66, .int (-1)]) rfl rfl rfl ?_
  refine ev_x (i := .iload 4) (len := 2) (p' := 506) (s' := [.int (nI n), .ref 0, .int (xs (n + 1)), .ref 66, .int (-1)]) rfl rfl rfl ?_
  refine ev_x (i := .iconst 2) (len := 1) (p' := 507) (s' := [.int 2, .int (nI n), .ref 0, .int (xs (n + 1)), .ref 66, .int (-1)]) rfl rfl rfl ?_
  refine ev_x (i := .iadd) (len := 1) (p' := 508) (s' := [.int ((nI n) + 2), .ref 0, .int (xs (n + 1)), .ref 66, .int (-1)]) rfl rfl rfl ?_
  refine ev_st (st' := [.int (nI (n + 2)), .ref 0, .int (xs (n + 1)), .ref 66, .int (-1)]) (congrArg (fun z => Value.int z :: [.ref 0, .int (xs (n + 1)), .ref 66, .int (-1)]) (nI_add n 2)) ?_
  refine ev_sg (p' := 509) rfl rfl hs (vp_in_nI (by omega) (by omega)) rfl ?_
  refine ev_st (st' := [.int (xs (n + 2)), .int (xs (n + 1)), .ref 66, .int (-1)]) (congrArg (fun z => Value.int (xs z) :: [.int (xs (n + 1)), .ref 66, .int (-1)]) (nI_clamp (n := n + 2) (by omega))) ?_
  refine ev_cv (d := d + 3) (As := [.int (xs (n + 1)), .int (xs (n + 2))]) (a := 66) (p' := 512) rfl rfl rfl ly_66 rfl rfl rfl rfl rfl rfl rfl (lz_78 (d := d + 0) (c_1 := c_1)) ?_
  refine ev_st (st' := [.int (-1), .int (-1)]) rfl ?_
  refine ev_b2 (t := 615) (p' := 615) rfl rfl rfl (by decide) ?_
  exact k
set_option maxHeartbeats 4000000 in
set_option maxRecDepth 100000 in
/-- GameTextLaw.law([I)Z -/
theorem lw_11g_a1 {d : Nat} {σ : st_S} {x_b x_k : Int32} {q : vz_O × vz_H} {n L : Nat} {xs : Nat → Int32} (hs : gF σ 0 = .inl (0, L, .inl xs)) (hn : n + 6 ≤ L) (hL : L ≤ 3072) (c_1 : ¬ ((xs (n + 1)) < 0)) (c_2 : (σ.1 52 10) ≤ (xs (n + 1))) (c_3 : (σ.1 66 29) ≤ (xs (n + 1))) (k : vz_ev P0 (d + 4) 0 615 [(4, .int (nI n)), (6, .int x_b), (5, .int x_k), (3, .ref 187), (2, .ref 66), (1, .ref 1), (0, .ref 0)] [] (hp (st_i (σ) 66 0 0)) q) : vz_ev P0 (d + 4) 0 480 [(4, .int (nI n)), (6, .int x_b), (5, .int x_k), (3, .ref 187), (2, .ref 66), (1, .ref 1), (0, .ref 0)] [] (hp σ) q := by
  refine ev_x (i := .aload_n 1) (len := 1) (p' := 481) (s' := [.ref 1]) rfl rfl rfl ?_
  refine ev_x (i := .aload_n 0) (len := 1) (p' := 482) (s' := [.ref 0, .ref 1]) rfl rfl rfl ?_
  refine ev_x (i := .iload 4) (len := 2) (p' := 484) (s' := [.int (nI n), .ref 0, .ref 1]) rfl rfl rfl ?_
  refine ev_x (i := .iconst 1) (len := 1) (p' := 485) (s' := [.int 1, .int (nI n), .ref 0, .ref 1]) rfl rfl rfl ?_
  refine ev_x (i := .iadd) (len := 1) (p' := 486) (s' := [.int ((nI n) + 1), .ref 0, .ref 1]) rfl rfl rfl ?_
  refine ev_st (st' := [.int (nI (n + 1)), .ref 0, .ref 1]) (congrArg (fun z => Value.int z :: [.ref 0, .ref 1]) (nI_add n 1)) ?_
  refine ev_sg (p' := 487) rfl rfl hs (vp_in_nI (by omega) (by omega)) rfl ?_
  refine ev_st (st' := [.int (xs (n + 1)), .ref 1]) (congrArg (fun z => Value.int (xs z) :: [.ref 1]) (nI_clamp (n := n + 1) (by omega))) ?_
  refine ev_x (i := .aload_n 0) (len := 1) (p' := 488) (s' := [.ref 0, .int (xs (n + 1)), .ref 1]) rfl rfl rfl ?_
  refine ev_x (i := .iload 4) (len := 2) (p' := 490) (s' := [.int (nI n), .ref 0, .int (xs (n + 1)), .ref 1]) rfl rfl rfl ?_
  refine ev_x (i := .iconst 2) (len := 1) (p' := 491) (s' := [.int 2, .int (nI n), .ref 0, .int (xs (n + 1)), .ref 1]) rfl rfl rfl ?_
  refine ev_x (i := .iadd) (len := 1) (p' := 492) (s' := [.int ((nI n) + 2), .ref 0, .int (xs (n + 1)), .ref 1]) rfl rfl rfl ?_
  refine ev_st (st' := [.int (nI (n + 2)), .ref 0, .int (xs (n + 1)), .ref 1]) (congrArg (fun z => Value.int z :: [.ref 0, .int (xs (n + 1)), .ref 1]) (nI_add n 2)) ?_
  refine ev_sg (p' := 493) rfl rfl hs (vp_in_nI (by omega) (by omega)) rfl ?_
  refine ev_st (st' := [.int (xs (n + 2)), .int (xs (n + 1)), .ref 1]) (congrArg (fun z => Value.int (xs z) :: [.int (xs (n + 1)), .ref 1]) (nI_clamp (n := n + 2) (by omega))) ?_
  refine ev_cv (d := d + 3) (As := [.int (xs (n + 1)), .int (xs (n + 2))]) (a := 1) (p' := 496) rfl rfl rfl ly_1 rfl rfl rfl rfl rfl rfl rfl (lz_82 (d := d + 0) (c_1 := c_1) (c_2 := c_2)) ?_
  refine ev_st (st' := [.int (-1)]) rfl ?_
  refine ev_x (i := .aload_n 2) (len := 1) (p' := 497) (s' := [.ref 66, .int (-1)]) rfl rfl rfl ?_
  refine ev_x (i := .aload_n 0) (len := 1) (p' := 498) (s' := [.ref 0, .ref 66, .int (-1)]) rfl rfl rfl ?_
  refine ev_x (i := .iload 4) (len := 2) (p' := 500) (s' := [.int (nI n), .ref 0, .ref 66, .int (-1)]) rfl rfl rfl ?_
  refine ev_x (i := .iconst 1) (len := 1) (p' := 501) (s' := [.int 1, .int (nI n), .ref 0, .ref 66, .int (-1)]) rfl rfl rfl ?_
  refine ev_x (i := .iadd) (len := 1) (p' := 502) (s' := [.int ((nI n) + 1), .ref 0, .ref 66, .int (-1)]) rfl rfl rfl ?_
  refine ev_st (st' := [.int (nI (n + 1)), .ref 0, .ref 66, .int (-1)]) (congrArg (fun z => Value.int z :: [.ref 0, .ref 66, .int (-1)]) (nI_add n 1)) ?_
  refine ev_sg (p' := 503) rfl rfl hs (vp_in_nI (by omega) (by omega)) rfl ?_
  refine ev_st (st' := [.int (xs (n + 1)), .ref 66, .int (-1)]) (congrArg (fun z => Value.int (xs z) :: [.ref 66, .int (-1)]) (nI_clamp (n := n + 1) (by omega))) ?_
  refine ev_x (i := .aload_n 0) (len := 1) (p' := 504) (s' := [.ref 0, .int (xs (n + 1)), .ref 66, .int (-1)]) rfl rfl rfl ?_
  refine ev_x (i := .iload 4) (len := 2) (p' := 506) (s' := [.int (nI n), .ref 0, .int (xs (n + 1)), .ref 66, .int (-1)]) rfl rfl rfl ?_
  refine ev_x (i := .iconst 2) (len := 1) (p' := 507) (s' := [.int 2, .int (nI n), .ref 0, .int (xs (n + 1)), .ref 66, .int (-1)]) rfl rfl rfl ?_
  refine ev_x (i := .iadd) (len := 1) (p' := 508) (s' := [.int ((nI n) + 2), .ref 0, .int (xs (n + 1)), .ref 66, .int (-1)]) rfl rfl rfl ?_
  refine ev_st (st' := [.int (nI (n + 2)), .ref 0, .int (xs (n + 1)), .ref 66, .int (-1)]) (congrArg (fun z => Value.int z :: [.ref 0, .int (xs (n + 1)), .ref 66, .int (-1)]) (nI_add n 2)) ?_
  refine ev_sg (p' := 509) rfl rfl hs (vp_in_nI (by omega) (by omega)) rfl ?_
  refine ev_st (st' := [.int (xs (n + 2)), .int (xs (n + 1)), .ref 66, .int (-1)]) (congrArg (fun z => Value.int (xs z) :: [.int (xs (n + 1)), .ref 66, .int (-1)]) (nI_clamp (n := n + 2) (by omega))) ?_
  refine ev_cv (d := d + 3) (As := [.int (xs (n + 1)), .int (xs (n + 2))]) (a := 66) (p' := 512) rfl rfl rfl ly_66 rfl rfl rfl rfl rfl rfl rfl (lz_85 (d := d + 0) (c_1 := c_1) (c_2 := c_3)) ?_
  refine ev_st (st' := [.int (-1), .int (-1)]) rfl ?_
  refine ev_b2 (t := 615) (p' := 615) rfl rfl rfl (by decide) ?_
  exact k
set_option maxHeartbeats 4000000 in
set_option maxRecDepth 100000 in
/-- GameTextLaw.law([I)Z -/
theorem lw_11m_a1 {d : Nat} {σ : st_S} {x_b x_k : Int32} {q : vz_O × vz_H} {n L : Nat} {xs : Nat → Int32} (hs : gF σ 0 = .inl (0, L, .inl xs)) (hn : n + 6 ≤ L) (hL : L ≤ 3072) (c_1 : ¬ ((xs (n + 1)) < 0)) (c_2 : ¬ ((σ.1 52 10) ≤ (xs (n + 1)))) (c_3 : (xs (n + 2)) < 0) (c_4 : ¬ ((σ.1 66 29) ≤ (xs (n + 1)))) (k : vz_ev P0 (d + 4) 0 615 [(4, .int (nI n)), (6, .int x_b), (5, .int x_k), (3, .ref 187), (2, .ref 66), (1, .ref 1), (0, .ref 0)] [] (hp (st_i (σ) 66 0 0)) q) : vz_ev P0 (d + 4) 0 480 [(4, .int (nI n)), (6, .int x_b), (5, .int x_k), (3, .ref 187), (2, .ref 66), (1, .ref 1), (0, .ref 0)] [] (hp σ) q := by
  refine ev_x (i := .aload_n 1) (len := 1) (p' := 481) (s' := [.ref 1]) rfl rfl rfl ?_
  refine ev_x (i := .aload_n 0) (len := 1) (p' := 482) (s' := [.ref 0, .ref 1]) rfl rfl rfl ?_
  refine ev_x (i := .iload 4) (len := 2) (p' := 484) (s' := [.int (nI n), .ref 0, .ref 1]) rfl rfl rfl ?_
  refine ev_x (i := .iconst 1) (len := 1) (p' := 485) (s' := [.int 1, .int (nI n), .ref 0, .ref 1]) rfl rfl rfl ?_
  refine ev_x (i := .iadd) (len := 1) (p' := 486) (s' := [.int ((nI n) + 1), .ref 0, .ref 1]) rfl rfl rfl ?_
  refine ev_st (st' := [.int (nI (n + 1)), .ref 0, .ref 1]) (congrArg (fun z => Value.int z :: [.ref 0, .ref 1]) (nI_add n 1)) ?_
  refine ev_sg (p' := 487) rfl rfl hs (vp_in_nI (by omega) (by omega)) rfl ?_
  refine ev_st (st' := [.int (xs (n + 1)), .ref 1]) (congrArg (fun z => Value.int (xs z) :: [.ref 1]) (nI_clamp (n := n + 1) (by omega))) ?_
  refine ev_x (i := .aload_n 0) (len := 1) (p' := 488) (s' := [.ref 0, .int (xs (n + 1)), .ref 1]) rfl rfl rfl ?_
  refine ev_x (i := .iload 4) (len := 2) (p' := 490) (s' := [.int (nI n), .ref 0, .int (xs (n + 1)), .ref 1]) rfl rfl rfl ?_
  refine ev_x (i := .iconst 2) (len := 1) (p' := 491) (s' := [.int 2, .int (nI n), .ref 0, .int (xs (n + 1)), .ref 1]) rfl rfl rfl ?_
  refine ev_x (i := .iadd) (len := 1) (p' := 492) (s' := [.int ((nI n) + 2), .ref 0, .int (xs (n + 1)), .ref 1]) rfl rfl rfl ?_
  refine ev_st (st' := [.int (nI (n + 2)), .ref 0, .int (xs (n + 1)), .ref 1]) (congrArg (fun z => Value.int z :: [.ref 0, .int (xs (n + 1)), .ref 1]) (nI_add n 2)) ?_
  refine ev_sg (p' := 493) rfl rfl hs (vp_in_nI (by omega) (by omega)) rfl ?_
  refine ev_st (st' := [.int (xs (n + 2)), .int (xs (n + 1)), .ref 1]) (congrArg (fun z => Value.int (xs z) :: [.int (xs (n + 1)), .ref 1]) (nI_clamp (n := n + 2) (by omega))) ?_
  refine ev_cv (d := d + 3) (As := [.int (xs (n + 1)), .int (xs (n + 2))]) (a := 1) (p' := 496) rfl rfl rfl ly_1 rfl rfl rfl rfl rfl rfl rfl (lz_89 (d := d + 0) (c_1 := c_1) (c_2 := c_2) (c_3 := c_3)) ?_
  refine ev_st (st' := [.int (-1)]) rfl ?_
  refine ev_x (i := .aload_n 2) (len := 1) (p' := 497) (s' := [.ref 66, .int (-1)]) rfl rfl rfl ?_
  refine ev_x (i := .aload_n 0) (len := 1) (p' := 498) (s' := [.ref 0, .ref 66, .int (-1)]) rfl rfl rfl ?_
  refine ev_x (i := .iload 4) (len := 2) (p' := 500) (s' := [.int (nI n), .ref 0, .ref 66, .int (-1)]) rfl rfl rfl ?_
  refine ev_x (i := .iconst 1) (len := 1) (p' := 501) (s' := [.int 1, .int (nI n), .ref 0, .ref 66, .int (-1)]) rfl rfl rfl ?_
  refine ev_x (i := .iadd) (len := 1) (p' := 502) (s' := [.int ((nI n) + 1), .ref 0, .ref 66, .int (-1)]) rfl rfl rfl ?_
  refine ev_st (st' := [.int (nI (n + 1)), .ref 0, .ref 66, .int (-1)]) (congrArg (fun z => Value.int z :: [.ref 0, .ref 66, .int (-1)]) (nI_add n 1)) ?_
  refine ev_sg (p' := 503) rfl rfl hs (vp_in_nI (by omega) (by omega)) rfl ?_
  refine ev_st (st' := [.int (xs (n + 1)), .ref 66, .int (-1)]) (congrArg (fun z => Value.int (xs z) :: [.ref 66, .int (-1)]) (nI_clamp (n := n + 1) (by omega))) ?_
  refine ev_x (i := .aload_n 0) (len := 1) (p' := 504) (s' := [.ref 0, .int (xs (n + 1)), .ref 66, .int (-1)]) rfl rfl rfl ?_
  refine ev_x (i := .iload 4) (len := 2) (p' := 506) (s' := [.int (nI n), .ref 0, .int (xs (n + 1)), .ref 66, .int (-1)]) rfl rfl rfl ?_
  refine ev_x (i := .iconst 2) (len := 1) (p' := 507) (s' := [.int 2, .int (nI n), .ref 0, .int (xs (n + 1)), .ref 66, .int (-1)]) rfl rfl rfl ?_
  refine ev_x (i := .iadd) (len := 1) (p' := 508) (s' := [.int ((nI n) + 2), .ref 0, .int (xs (n + 1)), .ref 66, .int (-1)]) rfl rfl rfl ?_
  refine ev_st (st' := [.int (nI (n + 2)), .ref 0, .int (xs (n + 1)), .ref 66, .int (-1)]) (congrArg (fun z => Value.int z :: [.ref 0, .int (xs (n + 1)), .ref 66, .int (-1)]) (nI_add n 2)) ?_
  refine ev_sg (p' := 509) rfl rfl hs (vp_in_nI (by omega) (by omega)) rfl ?_
  refine ev_st (st' := [.int (xs (n + 2)), .int (xs (n + 1)), .ref 66, .int (-1)]) (congrArg (fun z => Value.int (xs z) :: [.int (xs (n + 1)), .ref 66, .int (-1)]) (nI_clamp (n := n + 2) (by omega))) ?_
  refine ev_cv (d := d + 3) (As := [.int (xs (n + 1)), .int (xs (n + 2))]) (a := 66) (p' := 512) rfl rfl rfl ly_66 rfl rfl rfl rfl rfl rfl rfl (lz_92 (d := d + 0) (c_1 := c_1) (c_2 := c_4) (c_3 := c_3)) ?_
  refine ev_st (st' := [.int (-1), .int (-1)]) rfl ?_
  refine ev_b2 (t := 615) (p' := 615) rfl rfl rfl (by decide) ?_
  exact k
set_option maxHeartbeats 4000000 in
set_option maxRecDepth 100000 in
/-- GameTextLaw.law([I)Z -/
theorem lw_11h_a1 {d : Nat} {σ : st_S} {x_b x_k : Int32} {q : vz_O × vz_H} {n L : Nat} {xs : Nat → Int32} (hs : gF σ 0 = .inl (0, L, .inl xs)) (hn : n + 6 ≤ L) (hL : L ≤ 3072) (c_1 : ¬ ((xs (n + 1)) < 0)) (c_2 : ¬ ((σ.1 52 10) ≤ (xs (n + 1)))) (c_3 : ¬ ((xs (n + 2)) < 0)) (c_4 : vp_in ((xs (n + 1)) + 1) (gN σ 56)) (c_5 : vp_in (xs (n + 1)) (gN σ 56)) (c_6 : ¬ ((xs (n + 2)) < ((gE σ 56 ((((xs (n + 1)) + 1)).toNatClampNeg)) - (gE σ 56 (((xs (n + 1))).toNatClampNeg))))) (c_7 : ¬ ((σ.1 66 29) ≤ (xs (n + 1)))) (c_8 : vp_in (xs (n + 1)) (gN σ 174)) (c_9 : (gE σ 174 (((xs (n + 1))).toNatClampNeg)) ≤ (xs (n + 2))) (k : vz_ev P0 (d + 4) 0 615 [(4, .int (nI n)), (6, .int x_b), (5, .int x_k), (3, .ref 187), (2, .ref 66), (1, .ref 1), (0, .ref 0)] [] (hp (st_i (σ) 66 0 0)) q) : vz_ev P0 (d + 4) 0 480 [(4, .int (nI n)), (6, .int x_b), (5, .int x_k), (3, .ref 187), (2, .ref 66), (1, .ref 1), (0, .ref 0)] [] (hp σ) q := by
  refine ev_x (i := .aload_n 1) (len := 1) (p' := 481) (s' := [.ref 1]) rfl rfl rfl ?_
  refine ev_x (i := .aload_n 0) (len := 1) (p' := 482) (s' := [.ref 0, .ref 1]) rfl rfl rfl ?_
  refine ev_x (i := .iload 4) (len := 2) (p' := 484) (s' := [.int (nI n), .ref 0, .ref 1]) rfl rfl rfl ?_
  refine ev_x (i := .iconst 1) (len := 1) (p' := 485) (s' := [.int 1, .int (nI n), .ref 0, .ref 1]) rfl rfl rfl ?_
  refine ev_x (i := .iadd) (len := 1) (p' := 486) (s' := [.int ((nI n) + 1), .ref 0, .ref 1]) rfl rfl rfl ?_
  refine ev_st (st' := [.int (nI (n + 1)), .ref 0, .ref 1]) (congrArg (fun z => Value.int z :: [.ref 0, .ref 1]) (nI_add n 1)) ?_
  refine ev_sg (p' := 487) rfl rfl hs (vp_in_nI (by omega) (by omega)) rfl ?_
  refine ev_st (st' := [.int (xs (n + 1)), .ref 1]) (congrArg (fun z => Value.int (xs z) :: [.ref 1]) (nI_clamp (n := n + 1) (by omega))) ?_
  refine ev_x (i := .aload_n 0) (len := 1) (p' := 488) (s' := [.ref 0, .int (xs (n + 1)), .ref 1]) rfl rfl rfl ?_
  refine ev_x (i := .iload 4) (len := 2) (p' := 490) (s' := [.int (nI n), .ref 0, .int (xs (n + 1)), .ref 1]) rfl rfl rfl ?_
  refine ev_x (i := .iconst 2) (len := 1) (p' := 491) (s' := [.int 2, .int (nI n), .ref 0, .int (xs (n + 1)), .ref 1]) rfl rfl rfl ?_
  refine ev_x (i := .iadd) (len := 1) (p' := 492) (s' := [.int ((nI n) + 2), .ref 0, .int (xs (n + 1)), .ref 1]) rfl rfl rfl ?_
  refine ev_st (st' := [.int (nI (n + 2)), .ref 0, .int (xs (n + 1)), .ref 1]) (congrArg (fun z => Value.int z :: [.ref 0, .int (xs (n + 1)), .ref 1]) (nI_add n 2)) ?_
  refine ev_sg (p' := 493) rfl rfl hs (vp_in_nI (by omega) (by omega)) rfl ?_
  refine ev_st (st' := [.int (xs (n + 2)), .int (xs (n + 1)), .ref 1]) (congrArg (fun z => Value.int (xs z) :: [.int (xs (n + 1)), .ref 1]) (nI_clamp (n := n + 2) (by omega))) ?_
  refine ev_cv (d := d + 3) (As := [.int (xs (n + 1)), .int (xs (n + 2))]) (a := 1) (p' := 496) rfl rfl rfl ly_1 rfl rfl rfl rfl rfl rfl rfl (lz_96 (d := d + 0) (c_1 := c_1) (c_2 := c_2) (c_3 := c_3) (c_4 := c_4) (c_5 := c_5) (c_6 := c_6)) ?_
  refine ev_st (st' := [.int (-1)]) rfl ?_
  refine ev_x (i := .aload_n 2) (len := 1) (p' := 497) (s' := [.ref 66, .int (-1)]) rfl rfl rfl ?_
  refine ev_x (i := .aload_n 0) (len := 1) (p' := 498) (s' := [.ref 0, .ref 66, .int (-1)]) rfl rfl rfl ?_
  refine ev_x (i := .iload 4) (len := 2) (p' := 500) (s' := [.int (nI n), .ref 0, .ref 66, .int (-1)]) rfl rfl rfl ?_
  refine ev_x (i := .iconst 1) (len := 1) (p' := 501) (s' := [.int 1, .int (nI n), .ref 0, .ref 66, .int (-1)]) rfl rfl rfl ?_
  refine ev_x (i := .iadd) (len := 1) (p' := 502) (s' := [.int ((nI n) + 1), .ref 0, .ref 66, .int (-1)]) rfl rfl rfl ?_
  refine ev_st (st' := [.int (nI (n + 1)), .ref 0, .ref 66, .int (-1)]) (congrArg (fun z => Value.int z :: [.ref 0, .ref 66, .int (-1)]) (nI_add n 1)) ?_
  refine ev_sg (p' := 503) rfl rfl hs (vp_in_nI (by omega) (by omega)) rfl ?_
  refine ev_st (st' := [.int (xs (n + 1)), .ref 66, .int (-1)]) (congrArg (fun z => Value.int (xs z) :: [.ref 66, .int (-1)]) (nI_clamp (n := n + 1) (by omega))) ?_
  refine ev_x (i := .aload_n 0) (len := 1) (p' := 504) (s' := [.ref 0, .int (xs (n + 1)), .ref 66, .int (-1)]) rfl rfl rfl ?_
  refine ev_x (i := .iload 4) (len := 2) (p' := 506) (s' := [.int (nI n), .ref 0, .int (xs (n + 1)), .ref 66, .int (-1)]) rfl rfl rfl ?_
  refine ev_x (i := .iconst 2) (len := 1) (p' := 507) (s' := [.int 2, .int (nI n), .ref 0, .int (xs (n + 1)), .ref 66, .int (-1)]) rfl rfl rfl ?_
  refine ev_x (i := .iadd) (len := 1) (p' := 508) (s' := [.int ((nI n) + 2), .ref 0, .int (xs (n + 1)), .ref 66, .int (-1)]) rfl rfl rfl ?_
  refine ev_st (st' := [.int (nI (n + 2)), .ref 0, .int (xs (n + 1)), .ref 66, .int (-1)]) (congrArg (fun z => Value.int z :: [.ref 0, .int (xs (n + 1)), .ref 66, .int (-1)]) (nI_add n 2)) ?_
  refine ev_sg (p' := 509) rfl rfl hs (vp_in_nI (by omega) (by omega)) rfl ?_
  refine ev_st (st' := [.int (xs (n + 2)), .int (xs (n + 1)), .ref 66, .int (-1)]) (congrArg (fun z => Value.int (xs z) :: [.int (xs (n + 1)), .ref 66, .int (-1)]) (nI_clamp (n := n + 2) (by omega))) ?_
  refine ev_cv (d := d + 3) (As := [.int (xs (n + 1)), .int (xs (n + 2))]) (a := 66) (p' := 512) rfl rfl rfl ly_66 rfl rfl rfl rfl rfl rfl rfl (lz_99 (d := d + 0) (c_1 := c_1) (c_2 := c_7) (c_3 := c_3) (c_4 := c_8) (c_5 := c_9)) ?_
  refine ev_st (st' := [.int (-1), .int (-1)]) rfl ?_
  refine ev_b2 (t := 615) (p' := 615) rfl rfl rfl (by decide) ?_
  exact k
set_option maxHeartbeats 4000000 in
set_option maxRecDepth 100000 in
/-- GameTextLaw.law([I)Z -/
theorem lw_11o_a1 {d : Nat} {σ : st_S} {x_b x_k : Int32} {q : vz_O × vz_H} {n L : Nat} {xs : Nat → Int32} (hs : gF σ 0 = .inl (0, L, .inl xs)) (hn : n + 6 ≤ L) (hL : L ≤ 3072) (c_1 : ¬ ((xs (n + 1)) < 0)) (c_2 : ¬ ((σ.1 52 10) ≤ (xs (n + 1)))) (c_3 : ¬ ((xs (n + 2)) < 0)) (c_4 : vp_in ((xs (n + 1)) + 1) (gN σ 56)) (c_5 : vp_in (xs (n + 1)) (gN σ 56)) (c_6 : (xs (n + 2)) < ((gE σ 56 ((((xs (n + 1)) + 1)).toNatClampNeg)) - (gE σ 56 (((xs (n + 1))).toNatClampNeg)))) (c_7 : 0 ≤ ((gE σ 56 (((xs (n + 1))).toNatClampNeg)) + (xs (n + 2)))) (c_8 : vp_in ((gE σ 56 (((xs (n + 1))).toNatClampNeg)) + (xs (n + 2))) (gN σ 57)) (c_9 : ¬ ((σ.1 66 29) ≤ (xs (n + 1)))) (c_10 : vp_in (xs (n + 1)) (gN σ 174)) (c_11 : ¬ ((gE σ 174 (((xs (n + 1))).toNatClampNeg)) ≤ (xs (n + 2)))) (c_12 : vp_in (xs (n + 1)) (gN σ 173)) (c_13 : vp_in ((gE σ 173 (((xs (n + 1))).toNatClampNeg)) + (xs (n + 2))) (gN σ 176)) (c_14 : (gE σ 57 ((((gE σ 56 (((xs (n + 1))).toNatClampNeg)) + (xs (n + 2)))).toNatClampNeg)) = (gE σ 176 ((((gE σ 173 (((xs (n + 1))).toNatClampNeg)) + (xs (n + 2)))).toNatClampNeg))) (k : vz_ev P0 (d + 4) 0 615 [(4, .int (nI n)), (6, .int x_b), (5, .int x_k), (3, .ref 187), (2, .ref 66), (1, .ref 1), (0, .ref 0)] [] (hp (st_i (σ) 66 0 0)) q) : vz_ev P0 (d + 4) 0 480 [(4, .int (nI n)), (6, .int x_b), (5, .int x_k), (3, .ref 187), (2, .ref 66), (1, .ref 1), (0, .ref 0)] [] (hp σ) q := by
  refine ev_x (i := .aload_n 1) (len := 1) (p' := 481) (s' := [.ref 1]) rfl rfl rfl ?_
  refine ev_x (i := .aload_n 0) (len := 1) (p' := 482) (s' := [.ref 0, .ref 1]) rfl rfl rfl ?_
  refine ev_x (i := .iload 4) (len := 2) (p' := 484) (s' := [.int (nI n), .ref 0, .ref 1]) rfl rfl rfl ?_
  refine ev_x (i := .iconst 1) (len := 1) (p' := 485) (s' := [.int 1, .int (nI n), .ref 0, .ref 1]) rfl rfl rfl ?_
  refine ev_x (i := .iadd) (len := 1) (p' := 486) (s' := [.int ((nI n) + 1), .ref 0, .ref 1]) rfl rfl rfl ?_
  refine ev_st (st' := [.int (nI (n + 1)), .ref 0, .ref 1]) (congrArg (fun z => Value.int z :: [.ref 0, .ref 1]) (nI_add n 1)) ?_
  refine ev_sg (p' := 487) rfl rfl hs (vp_in_nI (by omega) (by omega)) rfl ?_
  refine ev_st (st' := [.int (xs (n + 1)), .ref 1]) (congrArg (fun z => Value.int (xs z) :: [.ref 1]) (nI_clamp (n := n + 1) (by omega))) ?_
  refine ev_x (i := .aload_n 0) (len := 1) (p' := 488) (s' := [.ref 0, .int (xs (n + 1)), .ref 1]) rfl rfl rfl ?_
  refine ev_x (i := .iload 4) (len := 2) (p' := 490) (s' := [.int (nI n), .ref 0, .int (xs (n + 1)), .ref 1]) rfl rfl rfl ?_
  refine ev_x (i := .iconst 2) (len := 1) (p' := 491) (s' := [.int 2, .int (nI n), .ref 0, .int (xs (n + 1)), .ref 1]) rfl rfl rfl ?_
  refine ev_x (i := .iadd) (len := 1) (p' := 492) (s' := [.int ((nI n) + 2), .ref 0, .int (xs (n + 1)), .ref 1]) rfl rfl rfl ?_
  refine ev_st (st' := [.int (nI (n + 2)), .ref 0, .int (xs (n + 1)), .ref 1]) (congrArg (fun z => Value.int z :: [.ref 0, .int (xs (n + 1)), .ref 1]) (nI_add n 2)) ?_
  refine ev_sg (p' := 493) rfl rfl hs (vp_in_nI (by omega) (by omega)) rfl ?_
  refine ev_st (st' := [.int (xs (n + 2)), .int (xs (n + 1)), .ref 1]) (congrArg (fun z => Value.int (xs z) :: [.int (xs (n + 1)), .ref 1]) (nI_clamp (n := n + 2) (by omega))) ?_
  refine ev_cv (d := d + 3) (As := [.int (xs (n + 1)), .int (xs (n + 2))]) (a := 1) (p' := 496) rfl rfl rfl ly_1 rfl rfl rfl rfl rfl rfl rfl (lz_103 (d := d + 0) (c_1 := c_1) (c_2 := c_2) (c_3 := c_3) (c_4 := c_4) (c_5 := c_5) (c_6 := c_6) (c_7 := c_7) (c_8 := c_8)) ?_
  refine ev_st (st' := [.int (gE σ 57 ((((gE σ 56 (((xs (n + 1))).toNatClampNeg)) + (xs (n + 2)))).toNatClampNeg))]) rfl ?_
  refine ev_x (i := .aload_n 2) (len := 1) (p' := 497) (s' := [.ref 66, .int (gE σ 57 ((((gE σ 56 (((xs (n + 1))).toNatClampNeg)) + (xs (n + 2)))).toNatClampNeg))]) rfl rfl rfl ?_
  refine ev_x (i := .aload_n 0) (len := 1) (p' := 498) (s' := [.ref 0, .ref 66, .int (gE σ 57 ((((gE σ 56 (((xs (n + 1))).toNatClampNeg)) + (xs (n + 2)))).toNatClampNeg))]) rfl rfl rfl ?_
  refine ev_x (i := .iload 4) (len := 2) (p' := 500) (s' := [.int (nI n), .ref 0, .ref 66, .int (gE σ 57 ((((gE σ 56 (((xs (n + 1))).toNatClampNeg)) + (xs (n + 2)))).toNatClampNeg))]) rfl rfl rfl ?_
  refine ev_x (i := .iconst 1) (len := 1) (p' := 501) (s' := [.int 1, .int (nI n), .ref 0, .ref 66, .int (gE σ 57 ((((gE σ 56 (((xs (n + 1))).toNatClampNeg)) + (xs (n + 2)))).toNatClampNeg))]) rfl rfl rfl ?_
  refine ev_x (i := .iadd) (len := 1) (p' := 502) (s' := [.int ((nI n) + 1), .ref 0, .ref 66, .int (gE σ 57 ((((gE σ 56 (((xs (n + 1))).toNatClampNeg)) + (xs (n + 2)))).toNatClampNeg))]) rfl rfl rfl ?_
  refine ev_st (st' := [.int (nI (n + 1)), .ref 0, .ref 66, .int (gE σ 57 ((((gE σ 56 (((xs (n + 1))).toNatClampNeg)) + (xs (n + 2)))).toNatClampNeg))]) (congrArg (fun z => Value.int z :: [.ref 0, .ref 66, .int (gE σ 57 ((((gE σ 56 (((xs (n + 1))).toNatClampNeg)) + (xs (n + 2)))).toNatClampNeg))]) (nI_add n 1)) ?_
  refine ev_sg (p' := 503) rfl rfl hs (vp_in_nI (by omega) (by omega)) rfl ?_
  refine ev_st (st' := [.int (xs (n + 1)), .ref 66, .int (gE σ 57 ((((gE σ 56 (((xs (n + 1))).toNatClampNeg)) + (xs (n + 2)))).toNatClampNeg))]) (congrArg (fun z => Value.int (xs z) :: [.ref 66, .int (gE σ 57 ((((gE σ 56 (((xs (n + 1))).toNatClampNeg)) + (xs (n + 2)))).toNatClampNeg))]) (nI_clamp (n := n + 1) (by omega))) ?_
  refine ev_x (i := .aload_n 0) (len := 1) (p' := 504) (s' := [.ref 0, .int (xs (n + 1)), .ref 66, .int (gE σ 57 ((((gE σ 56 (((xs (n + 1))).toNatClampNeg)) + (xs (n + 2)))).toNatClampNeg))]) rfl rfl rfl ?_
  refine ev_x (i := .iload 4) (len := 2) (p' := 506) (s' := [.int (nI n), .ref 0, .int (xs (n + 1)), .ref 66, .int (gE σ 57 ((((gE σ 56 (((xs (n + 1))).toNatClampNeg)) + (xs (n + 2)))).toNatClampNeg))]) rfl rfl rfl ?_
  refine ev_x (i := .iconst 2) (len := 1) (p' := 507) (s' := [.int 2, .int (nI n), .ref 0, .int (xs (n + 1)), .ref 66, .int (gE σ 57 ((((gE σ 56 (((xs (n + 1))).toNatClampNeg)) + (xs (n + 2)))).toNatClampNeg))]) rfl rfl rfl ?_
  refine ev_x (i := .iadd) (len := 1) (p' := 508) (s' := [.int ((nI n) + 2), .ref 0, .int (xs (n + 1)), .ref 66, .int (gE σ 57 ((((gE σ 56 (((xs (n + 1))).toNatClampNeg)) + (xs (n + 2)))).toNatClampNeg))]) rfl rfl rfl ?_
  refine ev_st (st' := [.int (nI (n + 2)), .ref 0, .int (xs (n + 1)), .ref 66, .int (gE σ 57 ((((gE σ 56 (((xs (n + 1))).toNatClampNeg)) + (xs (n + 2)))).toNatClampNeg))]) (congrArg (fun z => Value.int z :: [.ref 0, .int (xs (n + 1)), .ref 66, .int (gE σ 57 ((((gE σ 56 (((xs (n + 1))).toNatClampNeg)) + (xs (n + 2)))).toNatClampNeg))]) (nI_add n 2)) ?_
  refine ev_sg (p' := 509) rfl rfl hs (vp_in_nI (by omega) (by omega)) rfl ?_
  refine ev_st (st' := [.int (xs (n + 2)), .int (xs (n + 1)), .ref 66, .int (gE σ 57 ((((gE σ 56 (((xs (n + 1))).toNatClampNeg)) + (xs (n + 2)))).toNatClampNeg))]) (congrArg (fun z => Value.int (xs z) :: [.int (xs (n + 1)), .ref 66, .int (gE σ 57 ((((gE σ 56 (((xs (n + 1))).toNatClampNeg)) + (xs (n + 2)))).toNatClampNeg))]) (nI_clamp (n := n + 2) (by omega))) ?_
  refine ev_cv (d := d + 3) (As := [.int (xs (n + 1)), .int (xs (n + 2))]) (a := 66) (p' := 512) rfl rfl rfl ly_66 rfl rfl rfl rfl rfl rfl rfl (lz_107 (d := d + 0) (c_1 := c_1) (c_2 := c_9) (c_3 := c_3) (c_4 := c_10) (c_5 := c_11) (c_6 := c_12) (c_7 := c_13)) ?_
  refine ev_st (st' := [.int (gE σ 176 ((((gE σ 173 (((xs (n + 1))).toNatClampNeg)) + (xs (n + 2)))).toNatClampNeg)), .int (gE σ 57 ((((gE σ 56 (((xs (n + 1))).toNatClampNeg)) + (xs (n + 2)))).toNatClampNeg))]) rfl ?_
  refine ev_b2 (t := 615) (p' := 615) rfl rfl rfl (if_pos c_14) ?_
  exact k
set_option maxHeartbeats 4000000 in
set_option maxRecDepth 100000 in
/-- GameTextLaw.law([I)Z -/
theorem lw_12n_a1 {d : Nat} {σ : st_S} {x_b x_k : Int32} {q : vz_O × vz_H} {n L : Nat} {xs : Nat → Int32} (hs : gF σ 0 = .inl (0, L, .inl xs)) (hn : n + 6 ≤ L) (hL : L ≤ 3072) (c_1 : (xs (n + 1)) < 0) (k : vz_ev P0 (d + 4) 0 615 [(4, .int (nI n)), (6, .int x_b), (5, .int x_k), (3, .ref 187), (2, .ref 66), (1, .ref 1), (0, .ref 0)] [] (hp (st_i (σ) 66 0 0)) q) : vz_ev P0 (d + 4) 0 517 [(4, .int (nI n)), (6, .int x_b), (5, .int x_k), (3, .ref 187), (2, .ref 66), (1, .ref 1), (0, .ref 0)] [] (hp σ) q := by
  refine ev_x (i := .aload_n 1) (len := 1) (p' := 518) (s' := [.ref 1]) rfl rfl rfl ?_
  refine ev_x (i := .aload_n 0) (len := 1) (p' := 519) (s' := [.ref 0, .ref 1]) rfl rfl rfl ?_
  refine ev_x (i := .iload 4) (len := 2) (p' := 521) (s' := [.int (nI n), .ref 0, .ref 1]) rfl rfl rfl ?_
  refine ev_x (i := .iconst 1) (len := 1) (p' := 522) (s' := [.int 1, .int (nI n), .ref 0, .ref 1]) rfl rfl rfl ?_
  refine ev_x (i := .iadd) (len := 1) (p' := 523) (s' := [.int ((nI n) + 1), .ref 0, .ref 1]) rfl rfl rfl ?_
  refine ev_st (st' := [.int (nI (n + 1)), .ref 0, .ref 1]) (congrArg (fun z => Value.int z :: [.ref 0, .ref 1]) (nI_add n 1)) ?_
  refine ev_sg (p' := 524) rfl rfl hs (vp_in_nI (by omega) (by omega)) rfl ?_
  refine ev_st (st' := [.int (xs (n + 1)), .ref 1]) (congrArg (fun z => Value.int (xs z) :: [.ref 1]) (nI_clamp (n := n + 1) (by omega))) ?_
  refine ev_x (i := .aload_n 0) (len := 1) (p' := 525) (s' := [.ref 0, .int (xs (n + 1)), .ref 1]) rfl rfl rfl ?_
  refine ev_x (i := .iload 4) (len := 2) (p' := 527) (s' := [.int (nI n), .ref 0, .int (xs (n + 1)), .ref 1]) rfl rfl rfl ?_
  refine ev_x (i := .iconst 2) (len := 1) (p' := 528) (s' := [.int 2, .int (nI n), .ref 0, .int (xs (n + 1)), .ref 1]) rfl rfl rfl ?_
  refine ev_x (i := .iadd) (len := 1) (p' := 529) (s' := [.int ((nI n) + 2), .ref 0, .int (xs (n + 1)), .ref 1]) rfl rfl rfl ?_
  refine ev_st (st' := [.int (nI (n + 2)), .ref 0, .int (xs (n + 1)), .ref 1]) (congrArg (fun z => Value.int z :: [.ref 0, .int (xs (n + 1)), .ref 1]) (nI_add n 2)) ?_
  refine ev_sg (p' := 530) rfl rfl hs (vp_in_nI (by omega) (by omega)) rfl ?_
  refine ev_st (st' := [.int (xs (n + 2)), .int (xs (n + 1)), .ref 1]) (congrArg (fun z => Value.int (xs z) :: [.int (xs (n + 1)), .ref 1]) (nI_clamp (n := n + 2) (by omega))) ?_
  refine ev_cv (d := d + 3) (As := [.int (xs (n + 1)), .int (xs (n + 2))]) (a := 1) (p' := 533) rfl rfl rfl ly_1 rfl rfl rfl rfl rfl rfl rfl (lz_111 (d := d + 0) (c_1 := c_1)) ?_
  refine ev_st (st' := [.int (-1)]) rfl ?_
  refine ev_x (i := .aload_n 2) (len := 1) (p' := 534) (s' := [.ref 66, .int (-1)]) rfl rfl rfl ?_
  refine ev_x (i := .aload_n 0) (len := 1) (p' := 535) (s' := [.ref 0, .ref 66, .int (-1)]) rfl rfl rfl ?_
  refine ev_x (i := .iload 4) (len := 2) (p' := 537) (s' := [.int (nI n), .ref 0, .ref 66, .int (-1)]) rfl rfl rfl ?_
  refine ev_x (i := .iconst 1) (len := 1) (p' := 538) (s' := [.int 1, .int (nI n), .ref 0, .ref 66, .int (-1)]) rfl rfl rfl ?_
  refine ev_x (i := .iadd) (len := 1) (p' := 539) (s' := [.int ((nI n) + 1), .ref 0, .ref 66, .int (-1)]) rfl rfl rfl ?_
  refine ev_st (st' := [.int (nI (n + 1)), .ref 0, .ref 66, .int (-1)]) (congrArg (fun z => Value.int z :: [.ref 0, .ref 66, .int (-1)]) (nI_add n 1)) ?_
  refine ev_sg (p' := 540) rfl rfl hs (vp_in_nI (by omega) (by omega)) rfl ?_
  refine ev_st (st' := [.int (xs (n + 1)), .ref 66, .int (-1)]) (congrArg (fun z => Value.int (xs z) :: [.ref 66, .int (-1)]) (nI_clamp (n := n + 1) (by omega))) ?_
  refine ev_x (i := .aload_n 0) (len := 1) (p' := 541) (s' := [.ref 0, .int (xs (n + 1)), .ref 66, .int (-1)]) rfl rfl rfl ?_
  refine ev_x (i := .iload 4) (len := 2) (p' := 543) (s' := [.int (nI n), .ref 0, .int (xs (n + 1)), .ref 66, .int (-1)]) rfl rfl rfl ?_
  refine ev_x (i := .iconst 2) (len := 1) (p' := 544) (s' := [.int 2, .int (nI n), .ref 0, .int (xs (n + 1)), .ref 66, .int (-1)]) rfl rfl rfl ?_
  refine ev_x (i := .iadd) (len := 1) (p' := 545) (s' := [.int ((nI n) + 2), .ref 0, .int (xs (n + 1)), .ref 66, .int (-1)]) rfl rfl rfl ?_
  refine ev_st (st' := [.int (nI (n + 2)), .ref 0, .int (xs (n + 1)), .ref 66, .int (-1)]) (congrArg (fun z => Value.int z :: [.ref 0, .int (xs (n + 1)), .ref 66, .int (-1)]) (nI_add n 2)) ?_
  refine ev_sg (p' := 546) rfl rfl hs (vp_in_nI (by omega) (by omega)) rfl ?_
  refine ev_st (st' := [.int (xs (n + 2)), .int (xs (n + 1)), .ref 66, .int (-1)]) (congrArg (fun z => Value.int (xs z) :: [.int (xs (n + 1)), .ref 66, .int (-1)]) (nI_clamp (n := n + 2) (by omega))) ?_
  refine ev_cv (d := d + 3) (As := [.int (xs (n + 1)), .int (xs (n + 2))]) (a := 66) (p' := 549) rfl rfl rfl ly_66 rfl rfl rfl rfl rfl rfl rfl (lz_114 (d := d + 0) (c_1 := c_1)) ?_
  refine ev_st (st' := [.int (-1), .int (-1)]) rfl ?_
  refine ev_b2 (t := 615) (p' := 615) rfl rfl rfl (by decide) ?_
  exact k
set_option maxHeartbeats 4000000 in
set_option maxRecDepth 100000 in
/-- GameTextLaw.law([I)Z -/
theorem lw_12g_a1 {d : Nat} {σ : st_S} {x_b x_k : Int32} {q : vz_O × vz_H} {n L : Nat} {xs : Nat → Int32} (hs : gF σ 0 = .inl (0, L, .inl xs)) (hn : n + 6 ≤ L) (hL : L ≤ 3072) (c_1 : ¬ ((xs (n + 1)) < 0)) (c_2 : (σ.1 52 10) ≤ (xs (n + 1))) (c_3 : (σ.1 66 29) ≤ (xs (n + 1))) (k : vz_ev P0 (d + 4) 0 615 [(4, .int (nI n)), (6, .int x_b), (5, .int x_k), (3, .ref 187), (2, .ref 66), (1, .ref 1), (0, .ref 0)] [] (hp (st_i (σ) 66 0 0)) q) : vz_ev P0 (d + 4) 0 517 [(4, .int (nI n)), (6, .int x_b), (5, .int x_k), (3, .ref 187), (2, .ref 66), (1, .ref 1), (0, .ref 0)] [] (hp σ) q := by
  refine ev_x (i := .aload_n 1) (len := 1) (p' := 518) (s' := [.ref 1]) rfl rfl rfl ?_
  refine ev_x (i := .aload_n 0) (len := 1) (p' := 519) (s' := [.ref 0, .ref 1]) rfl rfl rfl ?_
  refine ev_x (i := .iload 4) (len := 2) (p' := 521) (s' := [.int (nI n), .ref 0, .ref 1]) rfl rfl rfl ?_
  refine ev_x (i := .iconst 1) (len := 1) (p' := 522) (s' := [.int 1, .int (nI n), .ref 0, .ref 1]) rfl rfl rfl ?_
  refine ev_x (i := .iadd) (len := 1) (p' := 523) (s' := [.int ((nI n) + 1), .ref 0, .ref 1]) rfl rfl rfl ?_
  refine ev_st (st' := [.int (nI (n + 1)), .ref 0, .ref 1]) (congrArg (fun z => Value.int z :: [.ref 0, .ref 1]) (nI_add n 1)) ?_
  refine ev_sg (p' := 524) rfl rfl hs (vp_in_nI (by omega) (by omega)) rfl ?_
  refine ev_st (st' := [.int (xs (n + 1)), .ref 1]) (congrArg (fun z => Value.int (xs z) :: [.ref 1]) (nI_clamp (n := n + 1) (by omega))) ?_
  refine ev_x (i := .aload_n 0) (len := 1) (p' := 525) (s' := [.ref 0, .int (xs (n + 1)), .ref 1]) rfl rfl rfl ?_
  refine ev_x (i := .iload 4) (len := 2) (p' := 527) (s' := [.int (nI n), .ref 0, .int (xs (n + 1)), .ref 1]) rfl rfl rfl ?_
  refine ev_x (i := .iconst 2) (len := 1) (p' := 528) (s' := [.int 2, .int (nI n), .ref 0, .int (xs (n + 1)), .ref 1]) rfl rfl rfl ?_
  refine ev_x (i := .iadd) (len := 1) (p' := 529) (s' := [.int ((nI n) + 2), .ref 0, .int (xs (n + 1)), .ref 1]) rfl rfl rfl ?_
  refine ev_st (st' := [.int (nI (n + 2)), .ref 0, .int (xs (n + 1)), .ref 1]) (congrArg (fun z => Value.int z :: [.ref 0, .int (xs (n + 1)), .ref 1]) (nI_add n 2)) ?_
  refine ev_sg (p' := 530) rfl rfl hs (vp_in_nI (by omega) (by omega)) rfl ?_
  refine ev_st (st' := [.int (xs (n + 2)), .int (xs (n + 1)), .ref 1]) (congrArg (fun z => Value.int (xs z) :: [.int (xs (n + 1)), .ref 1]) (nI_clamp (n := n + 2) (by omega))) ?_
  refine ev_cv (d := d + 3) (As := [.int (xs (n + 1)), .int (xs (n + 2))]) (a := 1) (p' := 533) rfl rfl rfl ly_1 rfl rfl rfl rfl rfl rfl rfl (lz_118 (d := d + 0) (c_1 := c_1) (c_2 := c_2)) ?_
  refine ev_st (st' := [.int (-1)]) rfl ?_
  refine ev_x (i := .aload_n 2) (len := 1) (p' := 534) (s' := [.ref 66, .int (-1)]) rfl rfl rfl ?_
  refine ev_x (i := .aload_n 0) (len := 1) (p' := 535) (s' := [.ref 0, .ref 66, .int (-1)]) rfl rfl rfl ?_
  refine ev_x (i := .iload 4) (len := 2) (p' := 537) (s' := [.int (nI n), .ref 0, .ref 66, .int (-1)]) rfl rfl rfl ?_
  refine ev_x (i := .iconst 1) (len := 1) (p' := 538) (s' := [.int 1, .int (nI n), .ref 0, .ref 66, .int (-1)]) rfl rfl rfl ?_
  refine ev_x (i := .iadd) (len := 1) (p' := 539) (s' := [.int ((nI n) + 1), .ref 0, .ref 66, .int (-1)]) rfl rfl rfl ?_
  refine ev_st (st' := [.int (nI (n + 1)), .ref 0, .ref 66, .int (-1)]) (congrArg (fun z => Value.int z :: [.ref 0, .ref 66, .int (-1)]) (nI_add n 1)) ?_
  refine ev_sg (p' := 540) rfl rfl hs (vp_in_nI (by omega) (by omega)) rfl ?_
  refine ev_st (st' := [.int (xs (n + 1)), .ref 66, .int (-1)]) (congrArg (fun z => Value.int (xs z) :: [.ref 66, .int (-1)]) (nI_clamp (n := n + 1) (by omega))) ?_
  refine ev_x (i := .aload_n 0) (len := 1) (p' := 541) (s' := [.ref 0, .int (xs (n + 1)), .ref 66, .int (-1)]) rfl rfl rfl ?_
  refine ev_x (i := .iload 4) (len := 2) (p' := 543) (s' := [.int (nI n), .ref 0, .int (xs (n + 1)), .ref 66, .int (-1)]) rfl rfl rfl ?_
  refine ev_x (i := .iconst 2) (len := 1) (p' := 544) (s' := [.int 2, .int (nI n), .ref 0, .int (xs (n + 1)), .ref 66, .int (-1)]) rfl rfl rfl ?_
  refine ev_x (i := .iadd) (len := 1) (p' := 545) (s' := [.int ((nI n) + 2), .ref 0, .int (xs (n + 1)), .ref 66, .int (-1)]) rfl rfl rfl ?_
  refine ev_st (st' := [.int (nI (n + 2)), .ref 0, .int (xs (n + 1)), .ref 66, .int (-1)]) (congrArg (fun z => Value.int z :: [.ref 0, .int (xs (n + 1)), .ref 66, .int (-1)]) (nI_add n 2)) ?_
  refine ev_sg (p' := 546) rfl rfl hs (vp_in_nI (by omega) (by omega)) rfl ?_
  refine ev_st (st' := [.int (xs (n + 2)), .int (xs (n + 1)), .ref 66, .int (-1)]) (congrArg (fun z => Value.int (xs z) :: [.int (xs (n + 1)), .ref 66, .int (-1)]) (nI_clamp (n := n + 2) (by omega))) ?_
  refine ev_cv (d := d + 3) (As := [.int (xs (n + 1)), .int (xs (n + 2))]) (a := 66) (p' := 549) rfl rfl rfl ly_66 rfl rfl rfl rfl rfl rfl rfl (lz_121 (d := d + 0) (c_1 := c_1) (c_2 := c_3)) ?_
  refine ev_st (st' := [.int (-1), .int (-1)]) rfl ?_
  refine ev_b2 (t := 615) (p' := 615) rfl rfl rfl (by decide) ?_
  exact k
set_option maxHeartbeats 4000000 in
set_option maxRecDepth 100000 in
/-- GameTextLaw.law([I)Z -/
theorem lw_12m_a1 {d : Nat} {σ : st_S} {x_b x_k : Int32} {q : vz_O × vz_H} {n L : Nat} {xs : Nat → Int32} (hs : gF σ 0 = .inl (0, L, .inl xs)) (hn : n + 6 ≤ L) (hL : L ≤ 3072) (c_1 : ¬ ((xs (n + 1)) < 0)) (c_2 : ¬ ((σ.1 52 10) ≤ (xs (n + 1)))) (c_3 : (xs (n + 2)) < 0) (c_4 : ¬ ((σ.1 66 29) ≤ (xs (n + 1)))) (k : vz_ev P0 (d + 4) 0 615 [(4, .int (nI n)), (6, .int x_b), (5, .int x_k), (3, .ref 187), (2, .ref 66), (1, .ref 1), (0, .ref 0)] [] (hp (st_i (σ) 66 0 0)) q) : vz_ev P0 (d + 4) 0 517 [(4, .int (nI n)), (6, .int x_b), (5, .int x_k), (3, .ref 187), (2, .ref 66), (1, .ref 1), (0, .ref 0)] [] (hp σ) q := by
  refine ev_x (i := .aload_n 1) (len := 1) (p' := 518) (s' := [.ref 1]) rfl rfl rfl ?_
  refine ev_x (i := .aload_n 0) (len := 1) (p' := 519) (s' := [.ref 0, .ref 1]) rfl rfl rfl ?_
  refine ev_x (i := .iload 4) (len := 2) (p' := 521) (s' := [.int (nI n), .ref 0, .ref 1]) rfl rfl rfl ?_
  refine ev_x (i := .iconst 1) (len := 1) (p' := 522) (s' := [.int 1, .int (nI n), .ref 0, .ref 1]) rfl rfl rfl ?_
  refine ev_x (i := .iadd) (len := 1) (p' := 523) (s' := [.int ((nI n) + 1), .ref 0, .ref 1]) rfl rfl rfl ?_
  refine ev_st (st' := [.int (nI (n + 1)), .ref 0, .ref 1]) (congrArg (fun z => Value.int z :: [.ref 0, .ref 1]) (nI_add n 1)) ?_
  refine ev_sg (p' := 524) rfl rfl hs (vp_in_nI (by omega) (by omega)) rfl ?_
  refine ev_st (st' := [.int (xs (n + 1)), .ref 1]) (congrArg (fun z => Value.int (xs z) :: [.ref 1]) (nI_clamp (n := n + 1) (by omega))) ?_
  refine ev_x (i := .aload_n 0) (len := 1) (p' := 525) (s' := [.ref 0, .int (xs (n + 1)), .ref 1]) rfl rfl rfl ?_
  refine ev_x (i := .iload 4) (len := 2) (p' := 527) (s' := [.int (nI n), .ref 0, .int (xs (n + 1)), .ref 1]) rfl rfl rfl ?_
  refine ev_x (i := .iconst 2) (len := 1) (p' := 528) (s' := [.int 2, .int (nI n), .ref 0, .int (xs (n + 1)), .ref 1]) rfl rfl rfl ?_
  refine ev_x (i := .iadd) (len := 1) (p' := 529) (s' := [.int ((nI n) + 2), .ref 0, .int (xs (n + 1)), .ref 1]) rfl rfl rfl ?_
  refine ev_st (st' := [.int (nI (n + 2)), .ref 0, .int (xs (n + 1)), .ref 1]) (congrArg (fun z => Value.int z :: [.ref 0, .int (xs (n + 1)), .ref 1]) (nI_add n 2)) ?_
  refine ev_sg (p' := 530) rfl rfl hs (vp_in_nI (by omega) (by omega)) rfl ?_
  refine ev_st (st' := [.int (xs (n + 2)), .int (xs (n + 1)), .ref 1]) (congrArg (fun z => Value.int (xs z) :: [.int (xs (n + 1)), .ref 1]) (nI_clamp (n := n + 2) (by omega))) ?_
  refine ev_cv (d := d + 3) (As := [.int (xs (n + 1)), .int (xs (n + 2))]) (a := 1) (p' := 533) rfl rfl rfl ly_1 rfl rfl rfl rfl rfl rfl rfl (lz_125 (d := d + 0) (c_1 := c_1) (c_2 := c_2) (c_3 := c_3)) ?_
  refine ev_st (st' := [.int (-1)]) rfl ?_
  refine ev_x (i := .aload_n 2) (len := 1) (p' := 534) (s' := [.ref 66, .int (-1)]) rfl rfl rfl ?_
  refine ev_x (i := .aload_n 0) (len := 1) (p' := 535) (s' := [.ref 0, .ref 66, .int (-1)]) rfl rfl rfl ?_
  refine ev_x (i := .iload 4) (len := 2) (p' := 537) (s' := [.int (nI n), .ref 0, .ref 66, .int (-1)]) rfl rfl rfl ?_
  refine ev_x (i := .iconst 1) (len := 1) (p' := 538) (s' := [.int 1, .int (nI n), .ref 0, .ref 66, .int (-1)]) rfl rfl rfl ?_
  refine ev_x (i := .iadd) (len := 1) (p' := 539) (s' := [.int ((nI n) + 1), .ref 0, .ref 66, .int (-1)]) rfl rfl rfl ?_
  refine ev_st (st' := [.int (nI (n + 1)), .ref 0, .ref 66, .int (-1)]) (congrArg (fun z => Value.int z :: [.ref 0, .ref 66, .int (-1)]) (nI_add n 1)) ?_
  refine ev_sg (p' := 540) rfl rfl hs (vp_in_nI (by omega) (by omega)) rfl ?_
  refine ev_st (st' := [.int (xs (n + 1)), .ref 66, .int (-1)]) (congrArg (fun z => Value.int (xs z) :: [.ref 66, .int (-1)]) (nI_clamp (n := n + 1) (by omega))) ?_
  refine ev_x (i := .aload_n 0) (len := 1) (p' := 541) (s' := [.ref 0, .int (xs (n + 1)), .ref 66, .int (-1)]) rfl rfl rfl ?_
  refine ev_x (i := .iload 4) (len := 2) (p' := 543) (s' := [.int (nI n), .ref 0, .int (xs (n + 1)), .ref 66, .int (-1)]) rfl rfl rfl ?_
  refine ev_x (i := .iconst 2) (len := 1) (p' := 544) (s' := [.int 2, .int (nI n), .ref 0, .int (xs (n + 1)), .ref 66, .int (-1)]) rfl rfl rfl ?_
  refine ev_x (i := .iadd) (len := 1) (p' := 545) (s' := [.int ((nI n) + 2), .ref 0, .int (xs (n + 1)), .ref 66, .int (-1)]) rfl rfl rfl ?_
  refine ev_st (st' := [.int (nI (n + 2)), .ref 0, .int (xs (n + 1)), .ref 66, .int (-1)]) (congrArg (fun z => Value.int z :: [.ref 0, .int (xs (n + 1)), .ref 66, .int (-1)]) (nI_add n 2)) ?_
  refine ev_sg (p' := 546) rfl rfl hs (vp_in_nI (by omega) (by omega)) rfl ?_
  refine ev_st (st' := [.int (xs (n + 2)), .int (xs (n + 1)), .ref 66, .int (-1)]) (congrArg (fun z => Value.int (xs z) :: [.int (xs (n + 1)), .ref 66, .int (-1)]) (nI_clamp (n := n + 2) (by omega))) ?_
  refine ev_cv (d := d + 3) (As := [.int (xs (n + 1)), .int (xs (n + 2))]) (a := 66) (p' := 549) rfl rfl rfl ly_66 rfl rfl rfl rfl rfl rfl rfl (lz_128 (d := d + 0) (c_1 := c_1) (c_2 := c_4) (c_3 := c_3)) ?_
  refine ev_st (st' := [.int (-1), .int (-1)]) rfl ?_
  refine ev_b2 (t := 615) (p' := 615) rfl rfl rfl (by decide) ?_
  exact k
set_option maxHeartbeats 4000000 in
set_option maxRecDepth 100000 in
/-- GameTextLaw.law([I)Z -/
theorem lw_12h_a1 {d : Nat} {σ : st_S} {x_b x_k : Int32} {q : vz_O × vz_H} {n L : Nat} {xs : Nat → Int32} (hs : gF σ 0 = .inl (0, L, .inl xs)) (hn : n + 6 ≤ L) (hL : L ≤ 3072) (c_1 : ¬ ((xs (n + 1)) < 0)) (c_2 : ¬ ((σ.1 52 10) ≤ (xs (n + 1)))) (c_3 : ¬ ((xs (n + 2)) < 0)) (c_4 : vp_in ((xs (n + 1)) + 1) (gN σ 56)) (c_5 : vp_in (xs (n + 1)) (gN σ 56)) (c_6 : ¬ ((xs (n + 2)) < ((gE σ 56 ((((xs (n + 1)) + 1)).toNatClampNeg)) - (gE σ 56 (((xs (n + 1))).toNatClampNeg))))) (c_7 : ¬ ((σ.1 66 29) ≤ (xs (n + 1)))) (c_8 : vp_in (xs (n + 1)) (gN σ 174)) (c_9 : (gE σ 174 (((xs (n + 1))).toNatClampNeg)) ≤ (xs (n + 2))) (k : vz_ev P0 (d + 4) 0 615 [(4, .int (nI n)), (6, .int x_b), (5, .int x_k), (3, .ref 187), (2, .ref 66), (1, .ref 1), (0, .ref 0)] [] (hp (st_i (σ) 66 0 0)) q) : vz_ev P0 (d + 4) 0 517 [(4, .int (nI n)), (6, .int x_b), (5, .int x_k), (3, .ref 187), (2, .ref 66), (1, .ref 1), (0, .ref 0)] [] (hp σ) q := by
  refine ev_x (i := .aload_n 1) (len := 1) (p' := 518) (s' := [.ref 1]) rfl rfl rfl ?_
  refine ev_x (i := .aload_n 0) (len := 1) (p' := 519) (s' := [.ref 0, .ref 1]) rfl rfl rfl ?_
  refine ev_x (i := .iload 4) (len := 2) (p' := 521) (s' := [.int (nI n), .ref 0, .ref 1]) rfl rfl rfl ?_
  refine ev_x (i := .iconst 1) (len := 1) (p' := 522) (s' := [.int 1, .int (nI n), .ref 0, .ref 1]) rfl rfl rfl ?_
  refine ev_x (i := .iadd) (len := 1) (p' := 523) (s' := [.int ((nI n) + 1), .ref 0, .ref 1]) rfl rfl rfl ?_
  refine ev_st (st' := [.int (nI (n + 1)), .ref 0, .ref 1]) (congrArg (fun z => Value.int z :: [.ref 0, .ref 1]) (nI_add n 1)) ?_
  refine ev_sg (p' := 524) rfl rfl hs (vp_in_nI (by omega) (by omega)) rfl ?_
  refine ev_st (st' := [.int (xs (n + 1)), .ref 1]) (congrArg (fun z => Value.int (xs z) :: [.ref 1]) (nI_clamp (n := n + 1) (by omega))) ?_
  refine ev_x (i := .aload_n 0) (len := 1) (p' := 525) (s' := [.ref 0, .int (xs (n + 1)), .ref 1]) rfl rfl rfl ?_
  refine ev_x (i := .iload 4) (len := 2) (p' := 527) (s' := [.int (nI n), .ref 0, .int (xs (n + 1)), .ref 1]) rfl rfl rfl ?_
  refine ev_x (i := .iconst 2) (len := 1) (p' := 528) (s' := [.int 2, .int (nI n), .ref 0, .int (xs (n + 1)), .ref 1]) rfl rfl rfl ?_
  refine ev_x (i := .iadd) (len := 1) (p' := 529) (s' := [.int ((nI n) + 2), .ref 0, .int (xs (n + 1)), .ref 1]) rfl rfl rfl ?_
  refine ev_st (st' := [.int (nI (n + 2)), .ref 0, .int (xs (n + 1)), .ref 1]) (congrArg (fun z => Value.int z :: [.ref 0, .int (xs (n + 1)), .ref 1]) (nI_add n 2)) ?_
  refine ev_sg (p' := 530) rfl rfl hs (vp_in_nI (by omega) (by omega)) rfl ?_
  refine ev_st (st' := [.int (xs (n + 2)), .int (xs (n + 1)), .ref 1]) (congrArg (fun z => Value.int (xs z) :: [.int (xs (n + 1)), .ref 1]) (nI_clamp (n := n + 2) (by omega))) ?_
  refine ev_cv (d := d + 3) (As := [.int (xs (n + 1)), .int (xs (n + 2))]) (a := 1) (p' := 533) rfl rfl rfl ly_1 rfl rfl rfl rfl rfl rfl rfl (lz_132 (d := d + 0) (c_1 := c_1) (c_2 := c_2) (c_3 := c_3) (c_4 := c_4) (c_5 := c_5) (c_6 := c_6)) ?_
  refine ev_st (st' := [.int (-1)]) rfl ?_
  refine ev_x (i := .aload_n 2) (len := 1) (p' := 534) (s' := [.ref 66, .int (-1)]) rfl rfl rfl ?_
  refine ev_x (i := .aload_n 0) (len := 1) (p' := 535) (s' := [.ref 0, .ref 66, .int (-1)]) rfl rfl rfl ?_
  refine ev_x (i := .iload 4) (len := 2) (p' := 537) (s' := [.int (nI n), .ref 0, .ref 66, .int (-1)]) rfl rfl rfl ?_
  refine ev_x (i := .iconst 1) (len := 1) (p' := 538) (s' := [.int 1, .int (nI n), .ref 0, .ref 66, .int (-1)]) rfl rfl rfl ?_
  refine ev_x (i := .iadd) (len := 1) (p' := 539) (s' := [.int ((nI n) + 1), .ref 0, .ref 66, .int (-1)]) rfl rfl rfl ?_
  refine ev_st (st' := [.int (nI (n + 1)), .ref 0, .ref 66, .int (-1)]) (congrArg (fun z => Value.int z :: [.ref 0, .ref 66, .int (-1)]) (nI_add n 1)) ?_
  refine ev_sg (p' := 540) rfl rfl hs (vp_in_nI (by omega) (by omega)) rfl ?_
  refine ev_st (st' := [.int (xs (n + 1)), .ref 66, .int (-1)]) (congrArg (fun z => Value.int (xs z) :: [.ref 66, .int (-1)]) (nI_clamp (n := n + 1) (by omega))) ?_
  refine ev_x (i := .aload_n 0) (len := 1) (p' := 541) (s' := [.ref 0, .int (xs (n + 1)), .ref 66, .int (-1)]) rfl rfl rfl ?_
  refine ev_x (i := .iload 4) (len := 2) (p' := 543) (s' := [.int (nI n), .ref 0, .int (xs (n + 1)), .ref 66, .int (-1)]) rfl rfl rfl ?_
  refine ev_x (i := .iconst 2) (len := 1) (p' := 544) (s' := [.int 2, .int (nI n), .ref 0, .int (xs (n + 1)), .ref 66, .int (-1)]) rfl rfl rfl ?_
  refine ev_x (i := .iadd) (len := 1) (p' := 545) (s' := [.int ((nI n) + 2), .ref 0, .int (xs (n + 1)), .ref 66, .int (-1)]) rfl rfl rfl ?_
  refine ev_st (st' := [.int (nI (n + 2)), .ref 0, .int (xs (n + 1)), .ref 66, .int (-1)]) (congrArg (fun z => Value.int z :: [.ref 0, .int (xs (n + 1)), .ref 66, .int (-1)]) (nI_add n 2)) ?_
  refine ev_sg (p' := 546) rfl rfl hs (vp_in_nI (by omega) (by omega)) rfl ?_
  refine ev_st (st' := [.int (xs (n + 2)), .int (xs (n + 1)), .ref 66, .int (-1)]) (congrArg (fun z => Value.int (xs z) :: [.int (xs (n + 1)), .ref 66, .int (-1)]) (nI_clamp (n := n + 2) (by omega))) ?_
  refine ev_cv (d := d + 3) (As := [.int (xs (n + 1)), .int (xs (n + 2))]) (a := 66) (p' := 549) rfl rfl rfl ly_66 rfl rfl rfl rfl rfl rfl rfl (lz_135 (d := d + 0) (c_1 := c_1) (c_2 := c_7) (c_3 := c_3) (c_4 := c_8) (c_5 := c_9)) ?_
  refine ev_st (st' := [.int (-1), .int (-1)]) rfl ?_
  refine ev_b2 (t := 615) (p' := 615) rfl rfl rfl (by decide) ?_
  exact k
set_option maxHeartbeats 4000000 in
set_option maxRecDepth 100000 in
/-- GameTextLaw.law([I)Z -/
theorem lw_12o_a1 {d : Nat} {σ : st_S} {x_b x_k : Int32} {q : vz_O × vz_H} {n L : Nat} {xs : Nat → Int32} (hs : gF σ 0 = .inl (0, L, .inl xs)) (hn : n + 6 ≤ L) (hL : L ≤ 3072) (c_1 : ¬ ((xs (n + 1)) < 0)) (c_2 : ¬ ((σ.1 52 10) ≤ (xs (n + 1)))) (c_3 : ¬ ((xs (n + 2)) < 0)) (c_4 : vp_in ((xs (n + 1)) + 1) (gN σ 56)) (c_5 : vp_in (xs (n + 1)) (gN σ 56)) (c_6 : (xs (n + 2)) < ((gE σ 56 ((((xs (n + 1)) + 1)).toNatClampNeg)) - (gE σ 56 (((xs (n + 1))).toNatClampNeg)))) (c_7 : 0 ≤ ((gE σ 56 (((xs (n + 1))).toNatClampNeg)) + (xs (n + 2)))) (c_8 : vp_in (((gE σ 56 (((xs (n + 1))).toNatClampNeg)) + (xs (n + 2))) + 1) (gN σ 58)) (c_9 : vp_in ((gE σ 56 (((xs (n + 1))).toNatClampNeg)) + (xs (n + 2))) (gN σ 58)) (c_10 : ¬ ((σ.1 66 29) ≤ (xs (n + 1)))) (c_11 : vp_in (xs (n + 1)) (gN σ 174)) (c_12 : ¬ ((gE σ 174 (((xs (n + 1))).toNatClampNeg)) ≤ (xs (n + 2)))) (c_13 : vp_in (xs (n + 1)) (gN σ 173)) (c_14 : vp_in ((gE σ 173 (((xs (n + 1))).toNatClampNeg)) + (xs (n + 2))) (gN σ 180)) (c_15 : ((gE σ 58 (((((gE σ 56 (((xs (n + 1))).toNatClampNeg)) + (xs (n + 2))) + 1)).toNatClampNeg)) - (gE σ 58 ((((gE σ 56 (((xs (n + 1))).toNatClampNeg)) + (xs (n + 2)))).toNatClampNeg))) = (gE σ 180 ((((gE σ 173 (((xs (n + 1))).toNatClampNeg)) + (xs (n + 2)))).toNatClampNeg))) (k : vz_ev P0 (d + 4) 0 615 [(4, .int (nI n)), (6, .int x_b), (5, .int x_k), (3, .ref 187), (2, .ref 66), (1, .ref 1), (0, .ref 0)] [] (hp (st_i (σ) 66 0 0)) q) : vz_ev P0 (d + 4) 0 517 [(4, .int (nI n)), (6, .int x_b), (5, .int x_k), (3, .ref 187), (2, .ref 66), (1, .ref 1), (0, .ref 0)] [] (hp σ) q := by
  refine ev_x (i := .aload_n 1) (len := 1) (p' := 518) (s' := [.ref 1]) rfl rfl rfl ?_
  refine ev_x (i := .aload_n 0) (len := 1) (p' := 519) (s' := [.ref 0, .ref 1]) rfl rfl rfl ?_
  refine ev_x (i := .iload 4) (len := 2) (p' := 521) (s' := [.int (nI n), .ref 0, .ref 1]) rfl rfl rfl ?_
  refine ev_x (i := .iconst 1) (len := 1) (p' := 522) (s' := [.int 1, .int (nI n), .ref 0, .ref 1]) rfl rfl rfl ?_
  refine ev_x (i := .iadd) (len := 1) (p' := 523) (s' := [.int ((nI n) + 1), .ref 0, .ref 1]) rfl rfl rfl ?_
  refine ev_st (st' := [.int (nI (n + 1)), .ref 0, .ref 1]) (congrArg (fun z => Value.int z :: [.ref 0, .ref 1]) (nI_add n 1)) ?_
  refine ev_sg (p' := 524) rfl rfl hs (vp_in_nI (by omega) (by omega)) rfl ?_
  refine ev_st (st' := [.int (xs (n + 1)), .ref 1]) (congrArg (fun z => Value.int (xs z) :: [.ref 1]) (nI_clamp (n := n + 1) (by omega))) ?_
  refine ev_x (i := .aload_n 0) (len := 1) (p' := 525) (s' := [.ref 0, .int (xs (n + 1)), .ref 1]) rfl rfl rfl ?_
  refine ev_x (i := .iload 4) (len := 2) (p' := 527) (s' := [.int (nI n), .ref 0, .int (xs (n + 1)), .ref 1]) rfl rfl rfl ?_
  refine ev_x (i := .iconst 2) (len := 1) (p' := 528) (s' := [.int 2, .int (nI n), .ref 0, .int (xs (n + 1)), .ref 1]) rfl rfl rfl ?_
  refine ev_x (i := .iadd) (len := 1) (p' := 529) (s' := [.int ((nI n) + 2), .ref 0, .int (xs (n + 1)), .ref 1]) rfl rfl rfl ?_
  refine ev_st (st' := [.int (nI (n + 2)), .ref 0, .int (xs (n + 1)), .ref 1]) (congrArg (fun z => Value.int z :: [.ref 0, .int (xs (n + 1)), .ref 1]) (nI_add n 2)) ?_
  refine ev_sg (p' := 530) rfl rfl hs (vp_in_nI (by omega) (by omega)) rfl ?_
  refine ev_st (st' := [.int (xs (n + 2)), .int (xs (n + 1)), .ref 1]) (congrArg (fun z => Value.int (xs z) :: [.int (xs (n + 1)), .ref 1]) (nI_clamp (n := n + 2) (by omega))) ?_
  refine ev_cv (d := d + 3) (As := [.int (xs (n + 1)), .int (xs (n + 2))]) (a := 1) (p' := 533) rfl rfl rfl ly_1 rfl rfl rfl rfl rfl rfl rfl (lz_139 (d := d + 0) (c_1 := c_1) (c_2 := c_2) (c_3 := c_3) (c_4 := c_4) (c_5 := c_5) (c_6 := c_6) (c_7 := c_7) (c_8 := c_8) (c_9 := c_9)) ?_
  refine ev_st (st' := [.int ((gE σ 58 (((((gE σ 56 (((xs (n + 1))).toNatClampNeg)) + (xs (n + 2))) + 1)).toNatClampNeg)) - (gE σ 58 ((((gE σ 56 (((xs (n + 1))).toNatClampNeg)) + (xs (n + 2)))).toNatClampNeg)))]) rfl ?_
  refine ev_x (i := .aload_n 2) (len := 1) (p' := 534) (s' := [.ref 66, .int ((gE σ 58 (((((gE σ 56 (((xs (n + 1))).toNatClampNeg)) + (xs (n + 2))) + 1)).toNatClampNeg)) - (gE σ 58 ((((gE σ 56 (((xs (n + 1))).toNatClampNeg)) + (xs (n + 2)))).toNatClampNeg)))]) rfl rfl rfl ?_
  refine ev_x (i := .aload_n 0) (len := 1) (p' := 535) (s' := [.ref 0, .ref 66, .int ((gE σ 58 (((((gE σ 56 (((xs (n + 1))).toNatClampNeg)) + (xs (n + 2))) + 1)).toNatClampNeg)) - (gE σ 58 ((((gE σ 56 (((xs (n + 1))).toNatClampNeg)) + (xs (n + 2)))).toNatClampNeg)))]) rfl rfl rfl ?_
  refine ev_x (i := .iload 4) (len := 2) (p' := 537) (s' := [.int (nI n), .ref 0, .ref 66, .int ((gE σ 58 (((((gE σ 56 (((xs (n + 1))).toNatClampNeg)) + (xs (n + 2))) + 1)).toNatClampNeg)) - (gE σ 58 ((((gE σ 56 (((xs (n + 1))).toNatClampNeg)) + (xs (n + 2)))).toNatClampNeg)))]) rfl rfl rfl ?_
  refine ev_x (i := .iconst 1) (len := 1) (p' := 538) (s' := [.int 1, .int (nI n), .ref 0, .ref 66, .int ((gE σ 58 (((((gE σ 56 (((xs (n + 1))).toNatClampNeg)) + (xs (n + 2))) + 1)).toNatClampNeg)) - (gE σ 58 ((((gE σ 56 (((xs (n + 1))).toNatClampNeg)) + (xs (n + 2)))).toNatClampNeg)))]) rfl rfl rfl ?_
  refine ev_x (i := .iadd) (len := 1) (p' := 539) (s' := [.int ((nI n) + 1), .ref 0, .ref 66, .int ((gE σ 58 (((((gE σ 56 (((xs (n + 1))).toNatClampNeg)) + (xs (n + 2))) + 1)).toNatClampNeg)) - (gE σ 58 ((((gE σ 56 (((xs (n + 1))).toNatClampNeg)) + (xs (n + 2)))).toNatClampNeg)))]) rfl rfl rfl ?_
  refine ev_st (st' := [.int (nI (n + 1)), .ref 0, .ref 66, .int ((gE σ 58 (((((gE σ 56 (((xs (n + 1))).toNatClampNeg)) + (xs (n + 2))) + 1)).toNatClampNeg)) - (gE σ 58 ((((gE σ 56 (((xs (n + 1))).toNatClampNeg)) + (xs (n + 2)))).toNatClampNeg)))]) (congrArg (fun z => Value.int z :: [.ref 0, .ref 66, .int ((gE σ 58 (((((gE σ 56 (((xs (n + 1))).toNatClampNeg)) + (xs (n + 2))) + 1)).toNatClampNeg)) - (gE σ 58 ((((gE σ 56 (((xs (n + 1))).toNatClampNeg)) + (xs (n + 2)))).toNatClampNeg)))]) (nI_add n 1)) ?_
  refine ev_sg (p' := 540) rfl rfl hs (vp_in_nI (by omega) (by omega)) rfl ?_
  refine ev_st (st' := [.int (xs (n + 1)), .ref 66, .int ((gE σ 58 (((((gE σ 56 (((xs (n + 1))).toNatClampNeg)) + (xs (n + 2))) + 1)).toNatClampNeg)) - (gE σ 58 ((((gE σ 56 (((xs (n + 1))).toNatClampNeg)) + (xs (n + 2)))).toNatClampNeg)))]) (congrArg (fun z => Value.int (xs z) :: [.ref 66, .int ((gE σ 58 (((((gE σ 56 (((xs (n + 1))).toNatClampNeg)) + (xs (n + 2))) + 1)).toNatClampNeg)) - (gE σ 58 ((((gE σ 56 (((xs (n + 1))).toNatClampNeg)) + (xs (n + 2)))).toNatClampNeg)))]) (nI_clamp (n := n + 1) (by omega))) ?_
  refine ev_x (i := .aload_n 0) (len := 1) (p' := 541) (s' := [.ref 0, .int (xs (n + 1)), .ref 66, .int ((gE σ 58 (((((gE σ 56 (((xs (n + 1))).toNatClampNeg)) + (xs (n + 2))) + 1)).toNatClampNeg)) - (gE σ 58 ((((gE σ 56 (((xs (n + 1))).toNatClampNeg)) + (xs (n + 2)))).toNatClampNeg)))]) rfl rfl rfl ?_
  refine ev_x (i := .iload 4) (len := 2) (p' := 543) (s' := [.int (nI n), .ref 0, .int (xs (n + 1)), .ref 66, .int ((gE σ 58 (((((gE σ 56 (((xs (n + 1))).toNatClampNeg)) + (xs (n + 2))) + 1)).toNatClampNeg)) - (gE σ 58 ((((gE σ 56 (((xs (n + 1))).toNatClampNeg)) + (xs (n + 2)))).toNatClampNeg)))]) rfl rfl rfl ?_
  refine ev_x (i := .iconst 2) (len := 1) (p' := 544) (s' := [.int 2, .int (nI n), .ref 0, .int (xs (n + 1)), .ref 66, .int ((gE σ 58 (((((gE σ 56 (((xs (n + 1))).toNatClampNeg)) + (xs (n + 2))) + 1)).toNatClampNeg)) - (gE σ 58 ((((gE σ 56 (((xs (n + 1))).toNatClampNeg)) + (xs (n + 2)))).toNatClampNeg)))]) rfl rfl rfl ?_
  refine ev_x (i := .iadd) (len := 1) (p' := 545) (s' := [.int ((nI n) + 2), .ref 0, .int (xs (n + 1)), .ref 66, .int ((gE σ 58 (((((gE σ 56 (((xs (n + 1))).toNatClampNeg)) + (xs (n + 2))) + 1)).toNatClampNeg)) - (gE σ 58 ((((gE σ 56 (((xs (n + 1))).toNatClampNeg)) + (xs (n + 2)))).toNatClampNeg)))]) rfl rfl rfl ?_
  refine ev_st (st' := [.int (nI (n + 2)), .ref 0, .int (xs (n + 1)), .ref 66, .int ((gE σ 58 (((((gE σ 56 (((xs (n + 1))).toNatClampNeg)) + (xs (n + 2))) + 1)).toNatClampNeg)) - (gE σ 58 ((((gE σ 56 (((xs (n + 1))).toNatClampNeg)) + (xs (n + 2)))).toNatClampNeg)))]) (congrArg (fun z => Value.int z :: [.ref 0, .int (xs (n + 1)), .ref 66, .int ((gE σ 58 (((((gE σ 56 (((xs (n + 1))).toNatClampNeg)) + (xs (n + 2))) + 1)).toNatClampNeg)) - (gE σ 58 ((((gE σ 56 (((xs (n + 1))).toNatClampNeg)) + (xs (n + 2)))).toNatClampNeg)))]) (nI_add n 2)) ?_
  refine ev_sg (p' := 546) rfl rfl hs (vp_in_nI (by omega) (by omega)) rfl ?_
  refine ev_st (st' := [.int (xs (n + 2)), .int (xs (n + 1)), .ref 66, .int ((gE σ 58 (((((gE σ 56 (((xs (n + 1))).toNatClampNeg)) + (xs (n + 2))) + 1)).toNatClampNeg)) - (gE σ 58 ((((gE σ 56 (((xs (n + 1))).toNatClampNeg)) + (xs (n + 2)))).toNatClampNeg)))]) (congrArg (fun z => Value.int (xs z) :: [.int (xs (n + 1)), .ref 66, .int ((gE σ 58 (((((gE σ 56 (((xs (n + 1))).toNatClampNeg)) + (xs (n + 2))) + 1)).toNatClampNeg)) - (gE σ 58 ((((gE σ 56 (((xs (n + 1))).toNatClampNeg)) + (xs (n + 2)))).toNatClampNeg)))]) (nI_clamp (n := n + 2) (by omega))) ?_
  refine ev_cv (d := d + 3) (As := [.int (xs (n + 1)), .int (xs (n + 2))]) (a := 66) (p' := 549) rfl rfl rfl ly_66 rfl rfl rfl rfl rfl rfl rfl (lz_143 (d := d + 0) (c_1 := c_1) (c_2 := c_10) (c_3 := c_3) (c_4 := c_11) (c_5 := c_12) (c_6 := c_13) (c_7 := c_14)) ?_
  refine ev_st (st' := [.int (gE σ 180 ((((gE σ 173 (((xs (n + 1))).toNatClampNeg)) + (xs (n + 2)))).toNatClampNeg)), .int ((gE σ 58 (((((gE σ 56 (((xs (n + 1))).toNatClampNeg)) + (xs (n + 2))) + 1)).toNatClampNeg)) - (gE σ 58 ((((gE σ 56 (((xs (n + 1))).toNatClampNeg)) + (xs (n + 2)))).toNatClampNeg)))]) rfl ?_
  refine ev_b2 (t := 615) (p' := 615) rfl rfl rfl (if_pos c_15) ?_
  exact k
set_option maxHeartbeats 4000000 in
set_option maxRecDepth 100000 in
/-- GameTextLaw.law([I)Z -/
theorem lw_13n_a1 {d : Nat} {σ : st_S} {x_b x_k : Int32} {q : vz_O × vz_H} {n L : Nat} {xs : Nat → Int32} (hs : gF σ 0 = .inl (0, L, .inl xs)) (hn : n + 6 ≤ L) (hL : L ≤ 3072) (c_1 : (xs (n + 1)) < 0) (k : vz_ev P0 (d + 5) 0 615 [(4, .int (nI n)), (6, .int x_b), (5, .int x_k), (3, .ref 187), (2, .ref 66), (1, .ref 1), (0, .ref 0)] [] (hp (st_i (σ) 66 0 0)) q) : vz_ev P0 (d + 5) 0 554 [(4, .int (nI n)), (6, .int x_b), (5, .int x_k), (3, .ref 187), (2, .ref 66), (1, .ref 1), (0, .ref 0)] [] (hp σ) q := by
  refine ev_x (i := .aload_n 1) (len := 1) (p' := 555) (s' := [.ref 1]) rfl rfl rfl ?_
  refine ev_x (i := .aload_n 0) (len := 1) (p' := 556) (s' := [.ref 0, .ref 1]) rfl rfl rfl ?_
  refine ev_x (i := .iload 4) (len := 2) (p' := 558) (s' := [.int (nI n), .ref 0, .ref 1]) rfl rfl rfl ?_
  refine ev_x (i := .iconst 1) (len := 1) (p' := 559) (s' := [.int 1, .int (nI n), .ref 0, .ref 1]) rfl rfl rfl ?_
  refine ev_x (i := .iadd) (len := 1) (p' := 560) (s' := [.int ((nI n) + 1), .ref 0, .ref 1]) rfl rfl rfl ?_
  refine ev_st (st' := [.int (nI (n + 1)), .ref 0, .ref 1]) (congrArg (fun z => Value.int z :: [.ref 0, .ref 1]) (nI_add n 1)) ?_
  refine ev_sg (p' := 561) rfl rfl hs (vp_in_nI (by omega) (by omega)) rfl ?_
  refine ev_st (st' := [.int (xs (n + 1)), .ref 1]) (congrArg (fun z => Value.int (xs z) :: [.ref 1]) (nI_clamp (n := n + 1) (by omega))) ?_
  refine ev_x (i := .aload_n 0) (len := 1) (p' := 562) (s' := [.ref 0, .int (xs (n + 1)), .ref 1]) rfl rfl rfl ?_
  refine ev_x (i := .iload 4) (len := 2) (p' := 564) (s' := [.int (nI n), .ref 0, .int (xs (n + 1)), .ref 1]) rfl rfl rfl ?_
  refine ev_x (i := .iconst 2) (len := 1) (p' := 565) (s' := [.int 2, .int (nI n), .ref 0, .int (xs (n + 1)), .ref 1]) rfl rfl rfl ?_
  refine ev_x (i := .iadd) (len := 1) (p' := 566) (s' := [.int ((nI n) + 2), .ref 0, .int (xs (n + 1)), .ref 1]) rfl rfl rfl ?_
  refine ev_st (st' := [.int (nI (n + 2)), .ref 0, .int (xs (n + 1)), .ref 1]) (congrArg (fun z => Value.int z :: [.ref 0, .int (xs (n + 1)), .ref 1]) (nI_add n 2)) ?_
  refine ev_sg (p' := 567) rfl rfl hs (vp_in_nI (by omega) (by omega)) rfl ?_
  refine ev_st (st' := [.int (xs (n + 2)), .int (xs (n + 1)), .ref 1]) (congrArg (fun z => Value.int (xs z) :: [.int (xs (n + 1)), .ref 1]) (nI_clamp (n := n + 2) (by omega))) ?_
  refine ev_x (i := .aload_n 0) (len := 1) (p' := 568) (s' := [.ref 0, .int (xs (n + 2)), .int (xs (n + 1)), .ref 1]) rfl rfl rfl ?_
  refine ev_x (i := .iload 4) (len := 2) (p' := 570) (s' := [.int (nI n), .ref 0, .int (xs (n + 2)), .int (xs (n + 1)), .ref 1]) rfl rfl rfl ?_
  refine ev_x (i := .iconst 3) (len := 1) (p' := 571) (s' := [.int 3, .int (nI n), .ref 0, .int (xs (n + 2)), .int (xs (n + 1)), .ref 1]) rfl rfl rfl ?_
  refine ev_x (i := .iadd) (len := 1) (p' := 572) (s' := [.int ((nI n) + 3), .ref 0, .int (xs (n + 2)), .int (xs (n + 1)), .ref 1]) rfl rfl rfl ?_
  refine ev_st (st' := [.int (nI (n + 3)), .ref 0, .int (xs (n + 2)), .int (xs (n + 1)), .ref 1]) (congrArg (fun z => Value.int z :: [.ref 0, .int (xs (n + 2)), .int (xs (n + 1)), .ref 1]) (nI_add n 3)) ?_
  refine ev_sg (p' := 573) rfl rfl hs (vp_in_nI (by omega) (by omega)) rfl ?_
  refine ev_st (st' := [.int (xs (n + 3)), .int (xs (n + 2)), .int (xs (n + 1)), .ref 1]) (congrArg (fun z => Value.int (xs z) :: [.int (xs (n + 2)), .int (xs (n + 1)), .ref 1]) (nI_clamp (n := n + 3) (by omega))) ?_
  refine ev_x (i := .aload_n 0) (len := 1) (p' := 574) (s' := [.ref 0, .int (xs (n + 3)), .int (xs (n + 2)), .int (xs (n + 1)), .ref 1]) rfl rfl rfl ?_
  refine ev_x (i := .iload 4) (len := 2) (p' := 576) (s' := [.int (nI n), .ref 0, .int (xs (n + 3)), .int (xs (n + 2)), .int (xs (n + 1)), .ref 1]) rfl rfl rfl ?_
  refine ev_x (i := .iconst 4) (len := 1) (p' := 577) (s' := [.int 4, .int (nI n), .ref 0, .int (xs (n + 3)), .int (xs (n + 2)), .int (xs (n + 1)), .ref 1]) rfl rfl rfl ?_
  refine ev_x (i := .iadd) (len := 1) (p' := 578) (s' := [.int ((nI n) + 4), .ref 0, .int (xs (n + 3)), .int (xs (n + 2)), .int (xs (n + 1)), .ref 1]) rfl rfl rfl ?_
  refine ev_st (st' := [.int (nI (n + 4)), .ref 0, .int (xs (n + 3)), .int (xs (n + 2)), .int (xs (n + 1)), .ref 1]) (congrArg (fun z => Value.int z :: [.ref 0, .int (xs (n + 3)), .int (xs (n + 2)), .int (xs (n + 1)), .ref 1]) (nI_add n 4)) ?_
  refine ev_sg (p' := 579) rfl rfl hs (vp_in_nI (by omega) (by omega)) rfl ?_
  refine ev_st (st' := [.int (xs (n + 4)), .int (xs (n + 3)), .int (xs (n + 2)), .int (xs (n + 1)), .ref 1]) (congrArg (fun z => Value.int (xs z) :: [.int (xs (n + 3)), .int (xs (n + 2)), .int (xs (n + 1)), .ref 1]) (nI_clamp (n := n + 4) (by omega))) ?_
  refine ev_cv (d := d + 4) (As := [.int (xs (n + 1)), .int (xs (n + 2)), .int (xs (n + 3)), .int (xs (n + 4))]) (a := 1) (p' := 582) rfl rfl rfl ly_1 rfl rfl rfl rfl rfl rfl rfl (lz_148 (d := d + 0) (c_1 := c_1)) ?_
  refine ev_st (st' := [.int (-1)]) rfl ?_
  refine ev_x (i := .aload_n 2) (len := 1) (p' := 583) (s' := [.ref 66, .int (-1)]) rfl rfl rfl ?_
  refine ev_x (i := .aload_n 0) (len := 1) (p' := 584) (s' := [.ref 0, .ref 66, .int (-1)]) rfl rfl rfl ?_
  refine ev_x (i := .iload 4) (len := 2) (p' := 586) (s' := [.int (nI n), .ref 0, .ref 66, .int (-1)]) rfl rfl rfl ?_
  refine ev_x (i := .iconst 1) (len := 1) (p' := 587) (s' := [.int 1, .int (nI n), .ref 0, .ref 66, .int (-1)]) rfl rfl rfl ?_
  refine ev_x (i := .iadd) (len := 1) (p' := 588) (s' := [.int ((nI n) + 1), .ref 0, .ref 66, .int (-1)]) rfl rfl rfl ?_
  refine ev_st (st' := [.int (nI (n + 1)), .ref 0, .ref 66, .int (-1)]) (congrArg (fun z => Value.int z :: [.ref 0, .ref 66, .int (-1)]) (nI_add n 1)) ?_
  refine ev_sg (p' := 589) rfl rfl hs (vp_in_nI (by omega) (by omega)) rfl ?_
  refine ev_st (st' := [.int (xs (n + 1)), .ref 66, .int (-1)]) (congrArg (fun z => Value.int (xs z) :: [.ref 66, .int (-1)]) (nI_clamp (n := n + 1) (by omega))) ?_
  refine ev_x (i := .aload_n 0) (len := 1) (p' := 590) (s' := [.ref 0, .int (xs (n + 1)), .ref 66, .int (-1)]) rfl rfl rfl ?_
  refine ev_x (i := .iload 4) (len := 2) (p' := 592) (s' := [.int (nI n), .ref 0, .int (xs (n + 1)), .ref 66, .int (-1)]) rfl rfl rfl ?_
  refine ev_x (i := .iconst 2) (len := 1) (p' := 593) (s' := [.int 2, .int (nI n), .ref 0, .int (xs (n + 1)), .ref 66, .int (-1)]) rfl rfl rfl ?_
  refine ev_x (i := .iadd) (len := 1) (p' := 594) (s' := [.int ((nI n) + 2), .ref 0, .int (xs (n + 1)), .ref 66, .int (-1)]) rfl rfl rfl ?_
  refine ev_st (st' := [.int (nI (n + 2)), .ref 0, .int (xs (n + 1)), .ref 66, .int (-1)]) (congrArg (fun z => Value.int z :: [.ref 0, .int (xs (n + 1)), .ref 66, .int (-1)]) (nI_add n 2)) ?_
  refine ev_sg (p' := 595) rfl rfl hs (vp_in_nI (by omega) (by omega)) rfl ?_
  refine ev_st (st' := [.int (xs (n + 2)), .int (xs (n + 1)), .ref 66, .int (-1)]) (congrArg (fun z => Value.int (xs z) :: [.int (xs (n + 1)), .ref 66, .int (-1)]) (nI_clamp (n := n + 2) (by omega))) ?_
  refine ev_x (i := .aload_n 0) (len := 1) (p' := 596) (s' := [.ref 0, .int (xs (n + 2)), .int (xs (n + 1)), .ref 66, .int (-1)]) rfl rfl rfl ?_
  refine ev_x (i := .iload 4) (len := 2) (p' := 598) (s' := [.int (nI n), .ref 0, .int (xs (n + 2)), .int (xs (n + 1)), .ref 66, .int (-1)]) rfl rfl rfl ?_
  refine ev_x (i := .iconst 3) (len := 1) (p' := 599) (s' := [.int 3, .int (nI n), .ref 0, .int (xs (n + 2)), .int (xs (n + 1)), .ref 66, .int (-1)]) rfl rfl rfl ?_
  refine ev_x (i := .iadd) (len := 1) (p' := 600) (s' := [.int ((nI n) + 3), .ref 0, .int (xs (n + 2)), .int (xs (n + 1)), .ref 66, .int (-1)]) rfl rfl rfl ?_
  refine ev_st (st' := [.int (nI (n + 3)), .ref 0, .int (xs (n + 2)), .int (xs (n + 1)), .ref 66, .int (-1)]) (congrArg (fun z => Value.int z :: [.ref 0, .int (xs (n + 2)), .int (xs (n + 1)), .ref 66, .int (-1)]) (nI_add n 3)) ?_
  refine ev_sg (p' := 601) rfl rfl hs (vp_in_nI (by omega) (by omega)) rfl ?_
  refine ev_st (st' := [.int (xs (n + 3)), .int (xs (n + 2)), .int (xs (n + 1)), .ref 66, .int (-1)]) (congrArg (fun z => Value.int (xs z) :: [.int (xs (n + 2)), .int (xs (n + 1)), .ref 66, .int (-1)]) (nI_clamp (n := n + 3) (by omega))) ?_
  refine ev_x (i := .aload_n 0) (len := 1) (p' := 602) (s' := [.ref 0, .int (xs (n + 3)), .int (xs (n + 2)), .int (xs (n + 1)), .ref 66, .int (-1)]) rfl rfl rfl ?_
  refine ev_x (i := .iload 4) (len := 2) (p' := 604) (s' := [.int (nI n), .ref 0, .int (xs (n + 3)), .int (xs (n + 2)), .int (xs (n + 1)), .ref 66, .int (-1)]) rfl rfl rfl ?_
  refine ev_x (i := .iconst 4) (len := 1) (p' := 605) (s' := [.int 4, .int (nI n), .ref 0, .int (xs (n + 3)), .int (xs (n + 2)), .int (xs (n + 1)), .ref 66, .int (-1)]) rfl rfl rfl ?_
  refine ev_x (i := .iadd) (len := 1) (p' := 606) (s' := [.int ((nI n) + 4), .ref 0, .int (xs (n + 3)), .int (xs (n + 2)), .int (xs (n + 1)), .ref 66, .int (-1)]) rfl rfl rfl ?_
  refine ev_st (st' := [.int (nI (n + 4)), .ref 0, .int (xs (n + 3)), .int (xs (n + 2)), .int (xs (n + 1)), .ref 66, .int (-1)]) (congrArg (fun z => Value.int z :: [.ref 0, .int (xs (n + 3)), .int (xs (n + 2)), .int (xs (n + 1)), .ref 66, .int (-1)]) (nI_add n 4)) ?_
  refine ev_sg (p' := 607) rfl rfl hs (vp_in_nI (by omega) (by omega)) rfl ?_
  refine ev_st (st' := [.int (xs (n + 4)), .int (xs (n + 3)), .int (xs (n + 2)), .int (xs (n + 1)), .ref 66, .int (-1)]) (congrArg (fun z => Value.int (xs z) :: [.int (xs (n + 3)), .int (xs (n + 2)), .int (xs (n + 1)), .ref 66, .int (-1)]) (nI_clamp (n := n + 4) (by omega))) ?_
  refine ev_cv (d := d + 4) (As := [.int (xs (n + 1)), .int (xs (n + 2)), .int (xs (n + 3)), .int (xs (n + 4))]) (a := 66) (p' := 610) rfl rfl rfl ly_66 rfl rfl rfl rfl rfl rfl rfl (lz_151 (d := d + 1) (c_1 := c_1)) ?_
  refine ev_st (st' := [.int (-1), .int (-1)]) rfl ?_
  refine ev_b2 (t := 615) (p' := 615) rfl rfl rfl (by decide) ?_
  exact k
set_option maxHeartbeats 4000000 in
set_option maxRecDepth 100000 in
/-- GameTextLaw.law([I)Z -/
theorem lw_13g_a1 {d : Nat} {σ : st_S} {x_b x_k : Int32} {q : vz_O × vz_H} {n L : Nat} {xs : Nat → Int32} (hs : gF σ 0 = .inl (0, L, .inl xs)) (hn : n + 6 ≤ L) (hL : L ≤ 3072) (c_1 : ¬ ((xs (n + 1)) < 0)) (c_2 : (σ.1 52 10) ≤ (xs (n + 1))) (c_3 : (σ.1 66 29) ≤ (xs (n + 1))) (k : vz_ev P0 (d + 5) 0 615 [(4, .int (nI n)), (6, .int x_b), (5, .int x_k), (3, .ref 187), (2, .ref 66), (1, .ref 1), (0, .ref 0)] [] (hp (st_i (σ) 66 0 0)) q) : vz_ev P0 (d + 5) 0 554 [(4, .int (nI n)), (6, .int x_b), (5, .int x_k), (3, .ref 187), (2, .ref 66), (1, .ref 1), (0, .ref 0)] [] (hp σ) q := by
  refine ev_x (i := .aload_n 1) (len := 1) (p' := 555) (s' := [.ref 1]) rfl rfl rfl ?_
  refine ev_x (i := .aload_n 0) (len := 1) (p' := 556) (s' := [.ref 0, .ref 1]) rfl rfl rfl ?_
  refine ev_x (i := .iload 4) (len := 2) (p' := 558) (s' := [.int (nI n), .ref 0, .ref 1]) rfl rfl rfl ?_
  refine ev_x (i := .iconst 1) (len := 1) (p' := 559) (s' := [.int 1, .int (nI n), .ref 0, .ref 1]) rfl rfl rfl ?_
  refine ev_x (i := .iadd) (len := 1) (p' := 560) (s' := [.int ((nI n) + 1), .ref 0, .ref 1]) rfl rfl rfl ?_
  refine ev_st (st' := [.int (nI (n + 1)), .ref 0, .ref 1]) (congrArg (fun z => Value.int z :: [.ref 0, .ref 1]) (nI_add n 1)) ?_
  refine ev_sg (p' := 561) rfl rfl hs (vp_in_nI (by omega) (by omega)) rfl ?_
  refine ev_st (st' := [.int (xs (n + 1)), .ref 1]) (congrArg (fun z => Value.int (xs z) :: [.ref 1]) (nI_clamp (n := n + 1) (by omega))) ?_
  refine ev_x (i := .aload_n 0) (len := 1) (p' := 562) (s' := [.ref 0, .int (xs (n + 1)), .ref 1]) rfl rfl rfl ?_
  refine ev_x (i := .iload 4) (len := 2) (p' := 564) (s' := [.int (nI n), .ref 0, .int (xs (n + 1)), .ref 1]) rfl rfl rfl ?_
  refine ev_x (i := .iconst 2) (len := 1) (p' := 565) (s' := [.int 2, .int (nI n), .ref 0, .int (xs (n + 1)), .ref 1]) rfl rfl rfl ?_
  refine ev_x (i := .iadd) (len := 1) (p' := 566) (s' := [.int ((nI n) + 2), .ref 0, .int (xs (n + 1)), .ref 1]) rfl rfl rfl ?_
  refine ev_st (st' := [.int (nI (n + 2)), .ref 0, .int (xs (n + 1)), .ref 1]) (congrArg (fun z => Value.int z :: [.ref 0, .int (xs (n + 1)), .ref 1]) (nI_add n 2)) ?_
  refine ev_sg (p' := 567) rfl rfl hs (vp_in_nI (by omega) (by omega)) rfl ?_
  refine ev_st (st' := [.int (xs (n + 2)), .int (xs (n + 1)), .ref 1]) (congrArg (fun z => Value.int (xs z) :: [.int (xs (n + 1)), .ref 1]) (nI_clamp (n := n + 2) (by omega))) ?_
  refine ev_x (i := .aload_n 0) (len := 1) (p' := 568) (s' := [.ref 0, .int (xs (n + 2)), .int (xs (n + 1)), .ref 1]) rfl rfl rfl ?_
  refine ev_x (i := .iload 4) (len := 2) (p' := 570) (s' := [.int (nI n), .ref 0, .int (xs (n + 2)), .int (xs (n + 1)), .ref 1]) rfl rfl rfl ?_
  refine ev_x (i := .iconst 3) (len := 1) (p' := 571) (s' := [.int 3, .int (nI n), .ref 0, .int (xs (n + 2)), .int (xs (n + 1)), .ref 1]) rfl rfl rfl ?_
  refine ev_x (i := .iadd) (len := 1) (p' := 572) (s' := [.int ((nI n) + 3), .ref 0, .int (xs (n + 2)), .int (xs (n + 1)), .ref 1]) rfl rfl rfl ?_
  refine ev_st (st' := [.int (nI (n + 3)), .ref 0, .int (xs (n + 2)), .int (xs (n + 1)), .ref 1]) (congrArg (fun z => Value.int z :: [.ref 0, .int (xs (n + 2)), .int (xs (n + 1)), .ref 1]) (nI_add n 3)) ?_
  refine ev_sg (p' := 573) rfl rfl hs (vp_in_nI (by omega) (by omega)) rfl ?_
  refine ev_st (st' := [.int (xs (n + 3)), .int (xs (n + 2)), .int (xs (n + 1)), .ref 1]) (congrArg (fun z => Value.int (xs z) :: [.int (xs (n + 2)), .int (xs (n + 1)), .ref 1]) (nI_clamp (n := n + 3) (by omega))) ?_
  refine ev_x (i := .aload_n 0) (len := 1) (p' := 574) (s' := [.ref 0, .int (xs (n + 3)), .int (xs (n + 2)), .int (xs (n + 1)), .ref 1]) rfl rfl rfl ?_
  refine ev_x (i := .iload 4) (len := 2) (p' := 576) (s' := [.int (nI n), .ref 0, .int (xs (n + 3)), .int (xs (n + 2)), .int (xs (n + 1)), .ref 1]) rfl rfl rfl ?_
  refine ev_x (i := .iconst 4) (len := 1) (p' := 577) (s' := [.int 4, .int (nI n), .ref 0, .int (xs (n + 3)), .int (xs (n + 2)), .int (xs (n + 1)), .ref 1]) rfl rfl rfl ?_
  refine ev_x (i := .iadd) (len := 1) (p' := 578) (s' := [.int ((nI n) + 4), .ref 0, .int (xs (n + 3)), .int (xs (n + 2)), .int (xs (n + 1)), .ref 1]) rfl rfl rfl ?_
  refine ev_st (st' := [.int (nI (n + 4)), .ref 0, .int (xs (n + 3)), .int (xs (n + 2)), .int (xs (n + 1)), .ref 1]) (congrArg (fun z => Value.int z :: [.ref 0, .int (xs (n + 3)), .int (xs (n + 2)), .int (xs (n + 1)), .ref 1]) (nI_add n 4)) ?_
  refine ev_sg (p' := 579) rfl rfl hs (vp_in_nI (by omega) (by omega)) rfl ?_
  refine ev_st (st' := [.int (xs (n + 4)), .int (xs (n + 3)), .int (xs (n + 2)), .int (xs (n + 1)), .ref 1]) (congrArg (fun z => Value.int (xs z) :: [.int (xs (n + 3)), .int (xs (n + 2)), .int (xs (n + 1)), .ref 1]) (nI_clamp (n := n + 4) (by omega))) ?_
  refine ev_cv (d := d + 4) (As := [.int (xs (n + 1)), .int (xs (n + 2)), .int (xs (n + 3)), .int (xs (n + 4))]) (a := 1) (p' := 582) rfl rfl rfl ly_1 rfl rfl rfl rfl rfl rfl rfl (lz_156 (d := d + 0) (c_1 := c_1) (c_2 := c_2)) ?_
  refine ev_st (st' := [.int (-1)]) rfl ?_
  refine ev_x (i := .aload_n 2) (len := 1) (p' := 583) (s' := [.ref 66, .int (-1)]) rfl rfl rfl ?_
  refine ev_x (i := .aload_n 0) (len := 1) (p' := 584) (s' := [.ref 0, .ref 66, .int (-1)]) rfl rfl rfl ?_
  refine ev_x (i := .iload 4) (len := 2) (p' := 586) (s' := [.int (nI n), .ref 0, .ref 66, .int (-1)]) rfl rfl rfl ?_
  refine ev_x (i := .iconst 1) (len := 1) (p' := 587) (s' := [.int 1, .int (nI n), .ref 0, .ref 66, .int (-1)]) rfl rfl rfl ?_
  refine ev_x (i := .iadd) (len := 1) (p' := 588) (s' := [.int ((nI n) + 1), .ref 0, .ref 66, .int (-1)]) rfl rfl rfl ?_
  refine ev_st (st' := [.int (nI (n + 1)), .ref 0, .ref 66, .int (-1)]) (congrArg (fun z => Value.int z :: [.ref 0, .ref 66, .int (-1)]) (nI_add n 1)) ?_
  refine ev_sg (p' := 589) rfl rfl hs (vp_in_nI (by omega) (by omega)) rfl ?_
  refine ev_st (st' := [.int (xs (n + 1)), .ref 66, .int (-1)]) (congrArg (fun z => Value.int (xs z) :: [.ref 66, .int (-1)]) (nI_clamp (n := n + 1) (by omega))) ?_
  refine ev_x (i := .aload_n 0) (len := 1) (p' := 590) (s' := [.ref 0, .int (xs (n + 1)), .ref 66, .int (-1)]) rfl rfl rfl ?_
  refine ev_x (i := .iload 4) (len := 2) (p' := 592) (s' := [.int (nI n), .ref 0, .int (xs (n + 1)), .ref 66, .int (-1)]) rfl rfl rfl ?_
  refine ev_x (i := .iconst 2) (len := 1) (p' := 593) (s' := [.int 2, .int (nI n), .ref 0, .int (xs (n + 1)), .ref 66, .int (-1)]) rfl rfl rfl ?_
  refine ev_x (i := .iadd) (len := 1) (p' := 594) (s' := [.int ((nI n) + 2), .ref 0, .int (xs (n + 1)), .ref 66, .int (-1)]) rfl rfl rfl ?_
  refine ev_st (st' := [.int (nI (n + 2)), .ref 0, .int (xs (n + 1)), .ref 66, .int (-1)]) (congrArg (fun z => Value.int z :: [.ref 0, .int (xs (n + 1)), .ref 66, .int (-1)]) (nI_add n 2)) ?_
  refine ev_sg (p' := 595) rfl rfl hs (vp_in_nI (by omega) (by omega)) rfl ?_
  refine ev_st (st' := [.int (xs (n + 2)), .int (xs (n + 1)), .ref 66, .int (-1)]) (congrArg (fun z => Value.int (xs z) :: [.int (xs (n + 1)), .ref 66, .int (-1)]) (nI_clamp (n := n + 2) (by omega))) ?_
  refine ev_x (i := .aload_n 0) (len := 1) (p' := 596) (s' := [.ref 0, .int (xs (n + 2)), .int (xs (n + 1)), .ref 66, .int (-1)]) rfl rfl rfl ?_
  refine ev_x (i := .iload 4) (len := 2) (p' := 598) (s' := [.int (nI n), .ref 0, .int (xs (n + 2)), .int (xs (n + 1)), .ref 66, .int (-1)]) rfl rfl rfl ?_
  refine ev_x (i := .iconst 3) (len := 1) (p' := 599) (s' := [.int 3, .int (nI n), .ref 0, .int (xs (n + 2)), .int (xs (n + 1)), .ref 66, .int (-1)]) rfl rfl rfl ?_
  refine ev_x (i := .iadd) (len := 1) (p' := 600) (s' := [.int ((nI n) + 3), .ref 0, .int (xs (n + 2)), .int (xs (n + 1)), .ref 66, .int (-1)]) rfl rfl rfl ?_
  refine ev_st (st' := [.int (nI (n + 3)), .ref 0, .int (xs (n + 2)), .int (xs (n + 1)), .ref 66, .int (-1)]) (congrArg (fun z => Value.int z :: [.ref 0, .int (xs (n + 2)), .int (xs (n + 1)), .ref 66, .int (-1)]) (nI_add n 3)) ?_
  refine ev_sg (p' := 601) rfl rfl hs (vp_in_nI (by omega) (by omega)) rfl ?_
  refine ev_st (st' := [.int (xs (n + 3)), .int (xs (n + 2)), .int (xs (n + 1)), .ref 66, .int (-1)]) (congrArg (fun z => Value.int (xs z) :: [.int (xs (n + 2)), .int (xs (n + 1)), .ref 66, .int (-1)]) (nI_clamp (n := n + 3) (by omega))) ?_
  refine ev_x (i := .aload_n 0) (len := 1) (p' := 602) (s' := [.ref 0, .int (xs (n + 3)), .int (xs (n + 2)), .int (xs (n + 1)), .ref 66, .int (-1)]) rfl rfl rfl ?_
  refine ev_x (i := .iload 4) (len := 2) (p' := 604) (s' := [.int (nI n), .ref 0, .int (xs (n + 3)), .int (xs (n + 2)), .int (xs (n + 1)), .ref 66, .int (-1)]) rfl rfl rfl ?_
  refine ev_x (i := .iconst 4) (len := 1) (p' := 605) (s' := [.int 4, .int (nI n), .ref 0, .int (xs (n + 3)), .int (xs (n + 2)), .int (xs (n + 1)), .ref 66, .int (-1)]) rfl rfl rfl ?_
  refine ev_x (i := .iadd) (len := 1) (p' := 606) (s' := [.int ((nI n) + 4), .ref 0, .int (xs (n + 3)), .int (xs (n + 2)), .int (xs (n + 1)), .ref 66, .int (-1)]) rfl rfl rfl ?_
  refine ev_st (st' := [.int (nI (n + 4)), .ref 0, .int (xs (n + 3)), .int (xs (n + 2)), .int (xs (n + 1)), .ref 66, .int (-1)]) (congrArg (fun z => Value.int z :: [.ref 0, .int (xs (n + 3)), .int (xs (n + 2)), .int (xs (n + 1)), .ref 66, .int (-1)]) (nI_add n 4)) ?_
  refine ev_sg (p' := 607) rfl rfl hs (vp_in_nI (by omega) (by omega)) rfl ?_
  refine ev_st (st' := [.int (xs (n + 4)), .int (xs (n + 3)), .int (xs (n + 2)), .int (xs (n + 1)), .ref 66, .int (-1)]) (congrArg (fun z => Value.int (xs z) :: [.int (xs (n + 3)), .int (xs (n + 2)), .int (xs (n + 1)), .ref 66, .int (-1)]) (nI_clamp (n := n + 4) (by omega))) ?_
  refine ev_cv (d := d + 4) (As := [.int (xs (n + 1)), .int (xs (n + 2)), .int (xs (n + 3)), .int (xs (n + 4))]) (a := 66) (p' := 610) rfl rfl rfl ly_66 rfl rfl rfl rfl rfl rfl rfl (lz_159 (d := d + 1) (c_1 := c_1) (c_2 := c_3)) ?_
  refine ev_st (st' := [.int (-1), .int (-1)]) rfl ?_
  refine ev_b2 (t := 615) (p' := 615) rfl rfl rfl (by decide) ?_
  exact k
set_option maxHeartbeats 4000000 in
set_option maxRecDepth 100000 in
/-- GameTextLaw.law([I)Z -/
theorem lw_13m_a1 {d : Nat} {σ : st_S} {x_b x_k : Int32} {q : vz_O × vz_H} {n L : Nat} {xs : Nat → Int32} (hs : gF σ 0 = .inl (0, L, .inl xs)) (hn : n + 6 ≤ L) (hL : L ≤ 3072) (c_1 : ¬ ((xs (n + 1)) < 0)) (c_2 : ¬ ((σ.1 52 10) ≤ (xs (n + 1)))) (c_3 : (xs (n + 2)) < 0) (c_4 : ¬ ((σ.1 66 29) ≤ (xs (n + 1)))) (k : vz_ev P0 (d + 5) 0 615 [(4, .int (nI n)), (6, .int x_b), (5, .int x_k), (3, .ref 187), (2, .ref 66), (1, .ref 1), (0, .ref 0)] [] (hp (st_i (σ) 66 0 0)) q) : vz_ev P0 (d + 5) 0 554 [(4, .int (nI n)), (6, .int x_b), (5, .int x_k), (3, .ref 187), (2, .ref 66), (1, .ref 1), (0, .ref 0)] [] (hp σ) q := by
  refine ev_x (i := .aload_n 1) (len := 1) (p' := 555) (s' := [.ref 1]) rfl rfl rfl ?_
  refine ev_x (i := .aload_n 0) (len := 1) (p' := 556) (s' := [.ref 0, .ref 1]) rfl rfl rfl ?_
  refine ev_x (i := .iload 4) (len := 2) (p' := 558) (s' := [.int (nI n), .ref 0, .ref 1]) rfl rfl rfl ?_
  refine ev_x (i := .iconst 1) (len := 1) (p' := 559) (s' := [.int 1, .int (nI n), .ref 0, .ref 1]) rfl rfl rfl ?_
  refine ev_x (i := .iadd) (len := 1) (p' := 560) (s' := [.int ((nI n) + 1), .ref 0, .ref 1]) rfl rfl rfl ?_
  refine ev_st (st' := [.int (nI (n + 1)), .ref 0, .ref 1]) (congrArg (fun z => Value.int z :: [.ref 0, .ref 1]) (nI_add n 1)) ?_
  refine ev_sg (p' := 561) rfl rfl hs (vp_in_nI (by omega) (by omega)) rfl ?_
  refine ev_st (st' := [.int (xs (n + 1)), .ref 1]) (congrArg (fun z => Value.int (xs z) :: [.ref 1]) (nI_clamp (n := n + 1) (by omega))) ?_
  refine ev_x (i := .aload_n 0) (len := 1) (p' := 562) (s' := [.ref 0, .int (xs (n + 1)), .ref 1]) rfl rfl rfl ?_
  refine ev_x (i := .iload 4) (len := 2) (p' := 564) (s' := [.int (nI n), .ref 0, .int (xs (n + 1)), .ref 1]) rfl rfl rfl ?_
  refine ev_x (i := .iconst 2) (len := 1) (p' := 565) (s' := [.int 2, .int (nI n), .ref 0, .int (xs (n + 1)), .ref 1]) rfl rfl rfl ?_
  refine ev_x (i := .iadd) (len := 1) (p' := 566) (s' := [.int ((nI n) + 2), .ref 0, .int (xs (n + 1)), .ref 1]) rfl rfl rfl ?_
  refine ev_st (st' := [.int (nI (n + 2)), .ref 0, .int (xs (n + 1)), .ref 1]) (congrArg (fun z => Value.int z :: [.ref 0, .int (xs (n + 1)), .ref 1]) (nI_add n 2)) ?_
  refine ev_sg (p' := 567) rfl rfl hs (vp_in_nI (by omega) (by omega)) rfl ?_
  refine ev_st (st' := [.int (xs (n + 2)), .int (xs (n + 1)), .ref 1]) (congrArg (fun z => Value.int (xs z) :: [.int (xs (n + 1)), .ref 1]) (nI_clamp (n := n + 2) (by omega))) ?_
  refine ev_x (i := .aload_n 0) (len := 1) (p' := 568) (s' := [.ref 0, .int (xs (n + 2)), .int (xs (n + 1)), .ref 1]) rfl rfl rfl ?_
  refine ev_x (i := .iload 4) (len := 2) (p' := 570) (s' := [.int (nI n), .ref 0, .int (xs (n + 2)), .int (xs (n + 1)), .ref 1]) rfl rfl rfl ?_
  refine ev_x (i := .iconst 3) (len := 1) (p' := 571) (s' := [.int 3, .int (nI n), .ref 0, .int (xs (n + 2)), .int (xs (n + 1)), .ref 1]) rfl rfl rfl ?_
  refine ev_x (i := .iadd) (len := 1) (p' := 572) (s' := [.int ((nI n) + 3), .ref 0, .int (xs (n + 2)), .int (xs (n + 1)), .ref 1]) rfl rfl rfl ?_
  refine ev_st (st' := [.int (nI (n + 3)), .ref 0, .int (xs (n + 2)), .int (xs (n + 1)), .ref 1]) (congrArg (fun z => Value.int z :: [.ref 0, .int (xs (n + 2)), .int (xs (n + 1)), .ref 1]) (nI_add n 3)) ?_
  refine ev_sg (p' := 573) rfl rfl hs (vp_in_nI (by omega) (by omega)) rfl ?_
  refine ev_st (st' := [.int (xs (n + 3)), .int (xs (n + 2)), .int (xs (n + 1)), .ref 1]) (congrArg (fun z => Value.int (xs z) :: [.int (xs (n + 2)), .int (xs (n + 1)), .ref 1]) (nI_clamp (n := n + 3) (by omega))) ?_
  refine ev_x (i := .aload_n 0) (len := 1) (p' := 574) (s' := [.ref 0, .int (xs (n + 3)), .int (xs (n + 2)), .int (xs (n + 1)), .ref 1]) rfl rfl rfl ?_
  refine ev_x (i := .iload 4) (len := 2) (p' := 576) (s' := [.int (nI n), .ref 0, .int (xs (n + 3)), .int (xs (n + 2)), .int (xs (n + 1)), .ref 1]) rfl rfl rfl ?_
  refine ev_x (i := .iconst 4) (len := 1) (p' := 577) (s' := [.int 4, .int (nI n), .ref 0, .int (xs (n + 3)), .int (xs (n + 2)), .int (xs (n + 1)), .ref 1]) rfl rfl rfl ?_
  refine ev_x (i := .iadd) (len := 1) (p' := 578) (s' := [.int ((nI n) + 4), .ref 0, .int (xs (n + 3)), .int (xs (n + 2)), .int (xs (n + 1)), .ref 1]) rfl rfl rfl ?_
  refine ev_st (st' := [.int (nI (n + 4)), .ref 0, .int (xs (n + 3)), .int (xs (n + 2)), .int (xs (n + 1)), .ref 1]) (congrArg (fun z => Value.int z :: [.ref 0, .int (xs (n + 3)), .int (xs (n + 2)), .int (xs (n + 1)), .ref 1]) (nI_add n 4)) ?_
  refine ev_sg (p' := 579) rfl rfl hs (vp_in_nI (by omega) (by omega)) rfl ?_
  refine ev_st (st' := [.int (xs (n + 4)), .int (xs (n + 3)), .int (xs (n + 2)), .int (xs (n + 1)), .ref 1]) (congrArg (fun z => Value.int (xs z) :: [.int (xs (n + 3)), .int (xs (n + 2)), .int (xs (n + 1)), .ref 1]) (nI_clamp (n := n + 4) (by omega))) ?_
  refine ev_cv (d := d + 4) (As := [.int (xs (n + 1)), .int (xs (n + 2)), .int (xs (n + 3)), .int (xs (n + 4))]) (a := 1) (p' := 582) rfl rfl rfl ly_1 rfl rfl rfl rfl rfl rfl rfl (lz_164 (d := d + 0) (c_1 := c_1) (c_2 := c_2) (c_3 := c_3)) ?_
  refine ev_st (st' := [.int (-1)]) rfl ?_
  refine ev_x (i := .aload_n 2) (len := 1) (p' := 583) (s' := [.ref 66, .int (-1)]) rfl rfl rfl ?_
  refine ev_x (i := .aload_n 0) (len := 1) (p' := 584) (s' := [.ref 0, .ref 66, .int (-1)]) rfl rfl rfl ?_
  refine ev_x (i := .iload 4) (len := 2) (p' := 586) (s' := [.int (nI n), .ref 0, .ref 66, .int (-1)]) rfl rfl rfl ?_
  refine ev_x (i := .iconst 1) (len := 1) (p' := 587) (s' := [.int 1, .int (nI n), .ref 0, .ref 66, .int (-1)]) rfl rfl rfl ?_
  refine ev_x (i := .iadd) (len := 1) (p' := 588) (s' := [.int ((nI n) + 1), .ref 0, .ref 66, .int (-1)]) rfl rfl rfl ?_
  refine ev_st (st' := [.int (nI (n + 1)), .ref 0, .ref 66, .int (-1)]) (congrArg (fun z => Value.int z :: [.ref 0, .ref 66, .int (-1)]) (nI_add n 1)) ?_
  refine ev_sg (p' := 589) rfl rfl hs (vp_in_nI (by omega) (by omega)) rfl ?_
  refine ev_st (st' := [.int (xs (n + 1)), .ref 66, .int (-1)]) (congrArg (fun z => Value.int (xs z) :: [.ref 66, .int (-1)]) (nI_clamp (n := n + 1) (by omega))) ?_
  refine ev_x (i := .aload_n 0) (len := 1) (p' := 590) (s' := [.ref 0, .int (xs (n + 1)), .ref 66, .int (-1)]) rfl rfl rfl ?_
  refine ev_x (i := .iload 4) (len := 2) (p' := 592) (s' := [.int (nI n), .ref 0, .int (xs (n + 1)), .ref 66, .int (-1)]) rfl rfl rfl ?_
  refine ev_x (i := .iconst 2) (len := 1) (p' := 593) (s' := [.int 2, .int (nI n), .ref 0, .int (xs (n + 1)), .ref 66, .int (-1)]) rfl rfl rfl ?_
  refine ev_x (i := .iadd) (len := 1) (p' := 594) (s' := [.int ((nI n) + 2), .ref 0, .int (xs (n + 1)), .ref 66, .int (-1)]) rfl rfl rfl ?_
  refine ev_st (st' := [.int (nI (n + 2)), .ref 0, .int (xs (n + 1)), .ref 66, .int (-1)]) (congrArg (fun z => Value.int z :: [.ref 0, .int (xs (n + 1)), .ref 66, .int (-1)]) (nI_add n 2)) ?_
  refine ev_sg (p' := 595) rfl rfl hs (vp_in_nI (by omega) (by omega)) rfl ?_
  refine ev_st (st' := [.int (xs (n + 2)), .int (xs (n + 1)), .ref 66, .int (-1)]) (congrArg (fun z => Value.int (xs z) :: [.int (xs (n + 1)), .ref 66, .int (-1)]) (nI_clamp (n := n + 2) (by omega))) ?_
  refine ev_x (i := .aload_n 0) (len := 1) (p' := 596) (s' := [.ref 0, .int (xs (n + 2)), .int (xs (n + 1)), .ref 66, .int (-1)]) rfl rfl rfl ?_
  refine ev_x (i := .iload 4) (len := 2) (p' := 598) (s' := [.int (nI n), .ref 0, .int (xs (n + 2)), .int (xs (n + 1)), .ref 66, .int (-1)]) rfl rfl rfl ?_
  refine ev_x (i := .iconst 3) (len := 1) (p' := 599) (s' := [.int 3, .int (nI n), .ref 0, .int (xs (n + 2)), .int (xs (n + 1)), .ref 66, .int (-1)]) rfl rfl rfl ?_
  refine ev_x (i := .iadd) (len := 1) (p' := 600) (s' := [.int ((nI n) + 3), .ref 0, .int (xs (n + 2)), .int (xs (n + 1)), .ref 66, .int (-1)]) rfl rfl rfl ?_
  refine ev_st (st' := [.int (nI (n + 3)), .ref 0, .int (xs (n + 2)), .int (xs (n + 1)), .ref 66, .int (-1)]) (congrArg (fun z => Value.int z :: [.ref 0, .int (xs (n + 2)), .int (xs (n + 1)), .ref 66, .int (-1)]) (nI_add n 3)) ?_
  refine ev_sg (p' := 601) rfl rfl hs (vp_in_nI (by omega) (by omega)) rfl ?_
  refine ev_st (st' := [.int (xs (n + 3)), .int (xs (n + 2)), .int (xs (n + 1)), .ref 66, .int (-1)]) (congrArg (fun z => Value.int (xs z) :: [.int (xs (n + 2)), .int (xs (n + 1)), .ref 66, .int (-1)]) (nI_clamp (n := n + 3) (by omega))) ?_
  refine ev_x (i := .aload_n 0) (len := 1) (p' := 602) (s' := [.ref 0, .int (xs (n + 3)), .int (xs (n + 2)), .int (xs (n + 1)), .ref 66, .int (-1)]) rfl rfl rfl ?_
  refine ev_x (i := .iload 4) (len := 2) (p' := 604) (s' := [.int (nI n), .ref 0, .int (xs (n + 3)), .int (xs (n + 2)), .int (xs (n + 1)), .ref 66, .int (-1)]) rfl rfl rfl ?_
  refine ev_x (i := .iconst 4) (len := 1) (p' := 605) (s' := [.int 4, .int (nI n), .ref 0, .int (xs (n + 3)), .int (xs (n + 2)), .int (xs (n + 1)), .ref 66, .int (-1)]) rfl rfl rfl ?_
  refine ev_x (i := .iadd) (len := 1) (p' := 606) (s' := [.int ((nI n) + 4), .ref 0, .int (xs (n + 3)), .int (xs (n + 2)), .int (xs (n + 1)), .ref 66, .int (-1)]) rfl rfl rfl ?_
  refine ev_st (st' := [.int (nI (n + 4)), .ref 0, .int (xs (n + 3)), .int (xs (n + 2)), .int (xs (n + 1)), .ref 66, .int (-1)]) (congrArg (fun z => Value.int z :: [.ref 0, .int (xs (n + 3)), .int (xs (n + 2)), .int (xs (n + 1)), .ref 66, .int (-1)]) (nI_add n 4)) ?_
  refine ev_sg (p' := 607) rfl rfl hs (vp_in_nI (by omega) (by omega)) rfl ?_
  refine ev_st (st' := [.int (xs (n + 4)), .int (xs (n + 3)), .int (xs (n + 2)), .int (xs (n + 1)), .ref 66, .int (-1)]) (congrArg (fun z => Value.int (xs z) :: [.int (xs (n + 3)), .int (xs (n + 2)), .int (xs (n + 1)), .ref 66, .int (-1)]) (nI_clamp (n := n + 4) (by omega))) ?_
  refine ev_cv (d := d + 4) (As := [.int (xs (n + 1)), .int (xs (n + 2)), .int (xs (n + 3)), .int (xs (n + 4))]) (a := 66) (p' := 610) rfl rfl rfl ly_66 rfl rfl rfl rfl rfl rfl rfl (lz_167 (d := d + 1) (c_1 := c_1) (c_2 := c_4) (c_3 := c_3)) ?_
  refine ev_st (st' := [.int (-1), .int (-1)]) rfl ?_
  refine ev_b2 (t := 615) (p' := 615) rfl rfl rfl (by decide) ?_
  exact k
set_option maxHeartbeats 4000000 in
set_option maxRecDepth 100000 in
/-- GameTextLaw.law([I)Z -/
theorem lw_13h_a1 {d : Nat} {σ : st_S} {x_b x_k : Int32} {q : vz_O × vz_H} {n L : Nat} {xs : Nat → Int32} (hs : gF σ 0 = .inl (0, L, .inl xs)) (hn : n + 6 ≤ L) (hL : L ≤ 3072) (c_1 : ¬ ((xs (n + 1)) < 0)) (c_2 : ¬ ((σ.1 52 10) ≤ (xs (n + 1)))) (c_3 : ¬ ((xs (n + 2)) < 0)) (c_4 : vp_in ((xs (n + 1)) + 1) (gN σ 56)) (c_5 : vp_in (xs (n + 1)) (gN σ 56)) (c_6 : ¬ ((xs (n + 2)) < ((gE σ 56 ((((xs (n + 1)) + 1)).toNatClampNeg)) - (gE σ 56 (((xs (n + 1))).toNatClampNeg))))) (c_7 : ¬ ((σ.1 66 29) ≤ (xs (n + 1)))) (c_8 : vp_in (xs (n + 1)) (gN σ 174)) (c_9 : (gE σ 174 (((xs (n + 1))).toNatClampNeg)) ≤ (xs (n + 2))) (k : vz_ev P0 (d + 5) 0 615 [(4, .int (nI n)), (6, .int x_b), (5, .int x_k), (3, .ref 187), (2, .ref 66), (1, .ref 1), (0, .ref 0)] [] (hp (st_i (σ) 66 0 0)) q) : vz_ev P0 (d + 5) 0 554 [(4, .int (nI n)), (6, .int x_b), (5, .int x_k), (3, .ref 187), (2, .ref 66), (1, .ref 1), (0, .ref 0)] [] (hp σ) q := by
  refine ev_x (i := .aload_n 1) (len := 1) (p' := 555) (s' := [.ref 1]) rfl rfl rfl ?_
  refine ev_x (i := .aload_n 0) (len := 1) (p' := 556) (s' := [.ref 0, .ref 1]) rfl rfl rfl ?_
  refine ev_x (i := .iload 4) (len := 2) (p' := 558) (s' := [.int (nI n), .ref 0, .ref 1]) rfl rfl rfl ?_
  refine ev_x (i := .iconst 1) (len := 1) (p' := 559) (s' := [.int 1, .int (nI n), .ref 0, .ref 1]) rfl rfl rfl ?_
  refine ev_x (i := .iadd) (len := 1) (p' := 560) (s' := [.int ((nI n) + 1), .ref 0, .ref 1]) rfl rfl rfl ?_
  refine ev_st (st' := [.int (nI (n + 1)), .ref 0, .ref 1]) (congrArg (fun z => Value.int z :: [.ref 0, .ref 1]) (nI_add n 1)) ?_
  refine ev_sg (p' := 561) rfl rfl hs (vp_in_nI (by omega) (by omega)) rfl ?_
  refine ev_st (st' := [.int (xs (n + 1)), .ref 1]) (congrArg (fun z => Value.int (xs z) :: [.ref 1]) (nI_clamp (n := n + 1) (by omega))) ?_
  refine ev_x (i := .aload_n 0) (len := 1) (p' := 562) (s' := [.ref 0, .int (xs (n + 1)), .ref 1]) rfl rfl rfl ?_
  refine ev_x (i := .iload 4) (len := 2) (p' := 564) (s' := [.int (nI n), .ref 0, .int (xs (n + 1)), .ref 1]) rfl rfl rfl ?_
  refine ev_x (i := .iconst 2) (len := 1) (p' := 565) (s' := [.int 2, .int (nI n), .ref 0, .int (xs (n + 1)), .ref 1]) rfl rfl rfl ?_
  refine ev_x (i := .iadd) (len := 1) (p' := 566) (s' := [.int ((nI n) + 2), .ref 0, .int (xs (n + 1)), .ref 1]) rfl rfl rfl ?_
  refine ev_st (st' := [.int (nI (n + 2)), .ref 0, .int (xs (n + 1)), .ref 1]) (congrArg (fun z => Value.int z :: [.ref 0, .int (xs (n + 1)), .ref 1]) (nI_add n 2)) ?_
  refine ev_sg (p' := 567) rfl rfl hs (vp_in_nI (by omega) (by omega)) rfl ?_
  refine ev_st (st' := [.int (xs (n + 2)), .int (xs (n + 1)), .ref 1]) (congrArg (fun z => Value.int (xs z) :: [.int (xs (n + 1)), .ref 1]) (nI_clamp (n := n + 2) (by omega))) ?_
  refine ev_x (i := .aload_n 0) (len := 1) (p' := 568) (s' := [.ref 0, .int (xs (n + 2)), .int (xs (n + 1)), .ref 1]) rfl rfl rfl ?_
  refine ev_x (i := .iload 4) (len := 2) (p' := 570) (s' := [.int (nI n), .ref 0, .int (xs (n + 2)), .int (xs (n + 1)), .ref 1]) rfl rfl rfl ?_
  refine ev_x (i := .iconst 3) (len := 1) (p' := 571) (s' := [.int 3, .int (nI n), .ref 0, .int (xs (n + 2)), .int (xs (n + 1)), .ref 1]) rfl rfl rfl ?_
  refine ev_x (i := .iadd) (len := 1) (p' := 572) (s' := [.int ((nI n) + 3), .ref 0, .int (xs (n + 2)), .int (xs (n + 1)), .ref 1]) rfl rfl rfl ?_
  refine ev_st (st' := [.int (nI (n + 3)), .ref 0, .int (xs (n + 2)), .int (xs (n + 1)), .ref 1]) (congrArg (fun z => Value.int z :: [.ref 0, .int (xs (n + 2)), .int (xs (n + 1)), .ref 1]) (nI_add n 3)) ?_
  refine ev_sg (p' := 573) rfl rfl hs (vp_in_nI (by omega) (by omega)) rfl ?_
  refine ev_st (st' := [.int (xs (n + 3)), .int (xs (n + 2)), .int (xs (n + 1)), .ref 1]) (congrArg (fun z => Value.int (xs z) :: [.int (xs (n + 2)), .int (xs (n + 1)), .ref 1]) (nI_clamp (n := n + 3) (by omega))) ?_
  refine ev_x (i := .aload_n 0) (len := 1) (p' := 574) (s' := [.ref 0, .int (xs (n + 3)), .int (xs (n + 2)), .int (xs (n + 1)), .ref 1]) rfl rfl rfl ?_
  refine ev_x (i := .iload 4) (len := 2) (p' := 576) (s' := [.int (nI n), .ref 0, .int (xs (n + 3)), .int (xs (n + 2)), .int (xs (n + 1)), .ref 1]) rfl rfl rfl ?_
  refine ev_x (i := .iconst 4) (len := 1) (p' := 577) (s' := [.int 4, .int (nI n), .ref 0, .int (xs (n + 3)), .int (xs (n + 2)), .int (xs (n + 1)), .ref 1]) rfl rfl rfl ?_
  refine ev_x (i := .iadd) (len := 1) (p' := 578) (s' := [.int ((nI n) + 4), .ref 0, .int (xs (n + 3)), .int (xs (n + 2)), .int (xs (n + 1)), .ref 1]) rfl rfl rfl ?_
  refine ev_st (st' := [.int (nI (n + 4)), .ref 0, .int (xs (n + 3)), .int (xs (n + 2)), .int (xs (n + 1)), .ref 1]) (congrArg (fun z => Value.int z :: [.ref 0, .int (xs (n + 3)), .int (xs (n + 2)), .int (xs (n + 1)), .ref 1]) (nI_add n 4)) ?_
  refine ev_sg (p' := 579) rfl rfl hs (vp_in_nI (by omega) (by omega)) rfl ?_
  refine ev_st (st' := [.int (xs (n + 4)), .int (xs (n + 3)), .int (xs (n + 2)), .int (xs (n + 1)), .ref 1]) (congrArg (fun z => Value.int (xs z) :: [.int (xs (n + 3)), .int (xs (n + 2)), .int (xs (n + 1)), .ref 1]) (nI_clamp (n := n + 4) (by omega))) ?_
  refine ev_cv (d := d + 4) (As := [.int (xs (n + 1)), .int (xs (n + 2)), .int (xs (n + 3)), .int (xs (n + 4))]) (a := 1) (p' := 582) rfl rfl rfl ly_1 rfl rfl rfl rfl rfl rfl rfl (lz_172 (d := d + 0) (c_1 := c_1) (c_2 := c_2) (c_3 := c_3) (c_4 := c_4) (c_5 := c_5) (c_6 := c_6)) ?_
  refine ev_st (st' := [.int (-1)]) rfl ?_
  refine ev_x (i := .aload_n 2) (len := 1) (p' := 583) (s' := [.ref 66, .int (-1)]) rfl rfl rfl ?_
  refine ev_x (i := .aload_n 0) (len := 1) (p' := 584) (s' := [.ref 0, .ref 66, .int (-1)]) rfl rfl rfl ?_
  refine ev_x (i := .iload 4) (len := 2) (p' := 586) (s' := [.int (nI n), .ref 0, .ref 66, .int (-1)]) rfl rfl rfl ?_
  refine ev_x (i := .iconst 1) (len := 1) (p' := 587) (s' := [.int 1, .int (nI n), .ref 0, .ref 66, .int (-1)]) rfl rfl rfl ?_
  refine ev_x (i := .iadd) (len := 1) (p' := 588) (s' := [.int ((nI n) + 1), .ref 0, .ref 66, .int (-1)]) rfl rfl rfl ?_
  refine ev_st (st' := [.int (nI (n + 1)), .ref 0, .ref 66, .int (-1)]) (congrArg (fun z => Value.int z :: [.ref 0, .ref 66, .int (-1)]) (nI_add n 1)) ?_
  refine ev_sg (p' := 589) rfl rfl hs (vp_in_nI (by omega) (by omega)) rfl ?_
  refine ev_st (st' := [.int (xs (n + 1)), .ref 66, .int (-1)]) (congrArg (fun z => Value.int (xs z) :: [.ref 66, .int (-1)]) (nI_clamp (n := n + 1) (by omega))) ?_
  refine ev_x (i := .aload_n 0) (len := 1) (p' := 590) (s' := [.ref 0, .int (xs (n + 1)), .ref 66, .int (-1)]) rfl rfl rfl ?_
  refine ev_x (i := .iload 4) (len := 2) (p' := 592) (s' := [.int (nI n), .ref 0, .int (xs (n + 1)), .ref 66, .int (-1)]) rfl rfl rfl ?_
  refine ev_x (i := .iconst 2) (len := 1) (p' := 593) (s' := [.int 2, .int (nI n), .ref 0, .int (xs (n + 1)), .ref 66, .int (-1)]) rfl rfl rfl ?_
  refine ev_x (i := .iadd) (len := 1) (p' := 594) (s' := [.int ((nI n) + 2), .ref 0, .int (xs (n + 1)), .ref 66, .int (-1)]) rfl rfl rfl ?_
  refine ev_st (st' := [.int (nI (n + 2)), .ref 0, .int (xs (n + 1)), .ref 66, .int (-1)]) (congrArg (fun z => Value.int z :: [.ref 0, .int (xs (n + 1)), .ref 66, .int (-1)]) (nI_add n 2)) ?_
  refine ev_sg (p' := 595) rfl rfl hs (vp_in_nI (by omega) (by omega)) rfl ?_
  refine ev_st (st' := [.int (xs (n + 2)), .int (xs (n + 1)), .ref 66, .int (-1)]) (congrArg (fun z => Value.int (xs z) :: [.int (xs (n + 1)), .ref 66, .int (-1)]) (nI_clamp (n := n + 2) (by omega))) ?_
  refine ev_x (i := .aload_n 0) (len := 1) (p' := 596) (s' := [.ref 0, .int (xs (n + 2)), .int (xs (n + 1)), .ref 66, .int (-1)]) rfl rfl rfl ?_
  refine ev_x (i := .iload 4) (len := 2) (p' := 598) (s' := [.int (nI n), .ref 0, .int (xs (n + 2)), .int (xs (n + 1)), .ref 66, .int (-1)]) rfl rfl rfl ?_
  refine ev_x (i := .iconst 3) (len := 1) (p' := 599) (s' := [.int 3, .int (nI n), .ref 0, .int (xs (n + 2)), .int (xs (n + 1)), .ref 66, .int (-1)]) rfl rfl rfl ?_
  refine ev_x (i := .iadd) (len := 1) (p' := 600) (s' := [.int ((nI n) + 3), .ref 0, .int (xs (n + 2)), .int (xs (n + 1)), .ref 66, .int (-1)]) rfl rfl rfl ?_
  refine ev_st (st' := [.int (nI (n + 3)), .ref 0, .int (xs (n + 2)), .int (xs (n + 1)), .ref 66, .int (-1)]) (congrArg (fun z => Value.int z :: [.ref 0, .int (xs (n + 2)), .int (xs (n + 1)), .ref 66, .int (-1)]) (nI_add n 3)) ?_
  refine ev_sg (p' := 601) rfl rfl hs (vp_in_nI (by omega) (by omega)) rfl ?_
  refine ev_st (st' := [.int (xs (n + 3)), .int (xs (n + 2)), .int (xs (n + 1)), .ref 66, .int (-1)]) (congrArg (fun z => Value.int (xs z) :: [.int (xs (n + 2)), .int (xs (n + 1)), .ref 66, .int (-1)]) (nI_clamp (n := n + 3) (by omega))) ?_
  refine ev_x (i := .aload_n 0) (len := 1) (p' := 602) (s' := [.ref 0, .int (xs (n + 3)), .int (xs (n + 2)), .int (xs (n + 1)), .ref 66, .int (-1)]) rfl rfl rfl ?_
  refine ev_x (i := .iload 4) (len := 2) (p' := 604) (s' := [.int (nI n), .ref 0, .int (xs (n + 3)), .int (xs (n + 2)), .int (xs (n + 1)), .ref 66, .int (-1)]) rfl rfl rfl ?_
  refine ev_x (i := .iconst 4) (len := 1) (p' := 605) (s' := [.int 4, .int (nI n), .ref 0, .int (xs (n + 3)), .int (xs (n + 2)), .int (xs (n + 1)), .ref 66, .int (-1)]) rfl rfl rfl ?_
  refine ev_x (i := .iadd) (len := 1) (p' := 606) (s' := [.int ((nI n) + 4), .ref 0, .int (xs (n + 3)), .int (xs (n + 2)), .int (xs (n + 1)), .ref 66, .int (-1)]) rfl rfl rfl ?_
  refine ev_st (st' := [.int (nI (n + 4)), .ref 0, .int (xs (n + 3)), .int (xs (n + 2)), .int (xs (n + 1)), .ref 66, .int (-1)]) (congrArg (fun z => Value.int z :: [.ref 0, .int (xs (n + 3)), .int (xs (n + 2)), .int (xs (n + 1)), .ref 66, .int (-1)]) (nI_add n 4)) ?_
  refine ev_sg (p' := 607) rfl rfl hs (vp_in_nI (by omega) (by omega)) rfl ?_
  refine ev_st (st' := [.int (xs (n + 4)), .int (xs (n + 3)), .int (xs (n + 2)), .int (xs (n + 1)), .ref 66, .int (-1)]) (congrArg (fun z => Value.int (xs z) :: [.int (xs (n + 3)), .int (xs (n + 2)), .int (xs (n + 1)), .ref 66, .int (-1)]) (nI_clamp (n := n + 4) (by omega))) ?_
  refine ev_cv (d := d + 4) (As := [.int (xs (n + 1)), .int (xs (n + 2)), .int (xs (n + 3)), .int (xs (n + 4))]) (a := 66) (p' := 610) rfl rfl rfl ly_66 rfl rfl rfl rfl rfl rfl rfl (lz_175 (d := d + 1) (c_1 := c_1) (c_2 := c_7) (c_3 := c_3) (c_4 := c_8) (c_5 := c_9)) ?_
  refine ev_st (st' := [.int (-1), .int (-1)]) rfl ?_
  refine ev_b2 (t := 615) (p' := 615) rfl rfl rfl (by decide) ?_
  exact k
set_option maxHeartbeats 4000000 in
set_option maxRecDepth 100000 in
/-- GameTextLaw.law([I)Z -/
theorem lw_13j_a1 {d : Nat} {σ : st_S} {x_b x_k : Int32} {q : vz_O × vz_H} {n L : Nat} {xs : Nat → Int32} (hs : gF σ 0 = .inl (0, L, .inl xs)) (hn : n + 6 ≤ L) (hL : L ≤ 3072) (c_1 : ¬ ((xs (n + 1)) < 0)) (c_2 : ¬ ((σ.1 52 10) ≤ (xs (n + 1)))) (c_3 : ¬ ((xs (n + 2)) < 0)) (c_4 : vp_in ((xs (n + 1)) + 1) (gN σ 56)) (c_5 : vp_in (xs (n + 1)) (gN σ 56)) (c_6 : (xs (n + 2)) < ((gE σ 56 ((((xs (n + 1)) + 1)).toNatClampNeg)) - (gE σ 56 (((xs (n + 1))).toNatClampNeg)))) (c_7 : ¬ (((gE σ 56 (((xs (n + 1))).toNatClampNeg)) + (xs (n + 2))) < 0)) (c_8 : (xs (n + 3)) < 0) (c_9 : ¬ ((σ.1 66 29) ≤ (xs (n + 1)))) (c_10 : vp_in (xs (n + 1)) (gN σ 174)) (c_11 : ¬ ((gE σ 174 (((xs (n + 1))).toNatClampNeg)) ≤ (xs (n + 2)))) (k : vz_ev P0 (d + 5) 0 615 [(4, .int (nI n)), (6, .int x_b), (5, .int x_k), (3, .ref 187), (2, .ref 66), (1, .ref 1), (0, .ref 0)] [] (hp (st_i (σ) 66 0 0)) q) : vz_ev P0 (d + 5) 0 554 [(4, .int (nI n)), (6, .int x_b), (5, .int x_k), (3, .ref 187), (2, .ref 66), (1, .ref 1), (0, .ref 0)] [] (hp σ) q := by
  refine ev_x (i := .aload_n 1) (len := 1) (p' := 555) (s' := [.ref 1]) rfl rfl rfl ?_
  refine ev_x (i := .aload_n 0) (len := 1) (p' := 556) (s' := [.ref 0, .ref 1]) rfl rfl rfl ?_
  refine ev_x (i := .iload 4) (len := 2) (p' := 558) (s' := [.int (nI n), .ref 0, .ref 1]) rfl rfl rfl ?_
  refine ev_x (i := .iconst 1) (len := 1) (p' := 559) (s' := [.int 1, .int (nI n), .ref 0, .ref 1]) rfl rfl rfl ?_
  refine ev_x (i := .iadd) (len := 1) (p' := 560) (s' := [.int ((nI n) + 1), .ref 0, .ref 1]) rfl rfl rfl ?_
  refine ev_st (st' := [.int (nI (n + 1)), .ref 0, .ref 1]) (congrArg (fun z => Value.int z :: [.ref 0, .ref 1]) (nI_add n 1)) ?_
  refine ev_sg (p' := 561) rfl rfl hs (vp_in_nI (by omega) (by omega)) rfl ?_
  refine ev_st (st' := [.int (xs (n + 1)), .ref 1]) (congrArg (fun z => Value.int (xs z) :: [.ref 1]) (nI_clamp (n := n + 1) (by omega))) ?_
  refine ev_x (i := .aload_n 0) (len := 1) (p' := 562) (s' := [.ref 0, .int (xs (n + 1)), .ref 1]) rfl rfl rfl ?_
  refine ev_x (i := .iload 4) (len := 2) (p' := 564) (s' := [.int (nI n), .ref 0, .int (xs (n + 1)), .ref 1]) rfl rfl rfl ?_
  refine ev_x (i := .iconst 2) (len := 1) (p' := 565) (s' := [.int 2, .int (nI n), .ref 0, .int (xs (n + 1)), .ref 1]) rfl rfl rfl ?_
  refine ev_x (i := .iadd) (len := 1) (p' := 566) (s' := [.int ((nI n) + 2), .ref 0, .int (xs (n + 1)), .ref 1]) rfl rfl rfl ?_
  refine ev_st (st' := [.int (nI (n + 2)), .ref 0, .int (xs (n + 1)), .ref 1]) (congrArg (fun z => Value.int z :: [.ref 0, .int (xs (n + 1)), .ref 1]) (nI_add n 2)) ?_
  refine ev_sg (p' := 567) rfl rfl hs (vp_in_nI (by omega) (by omega)) rfl ?_
  refine ev_st (st' := [.int (xs (n + 2)), .int (xs (n + 1)), .ref 1]) (congrArg (fun z => Value.int (xs z) :: [.int (xs (n + 1)), .ref 1]) (nI_clamp (n := n + 2) (by omega))) ?_
  refine ev_x (i := .aload_n 0) (len := 1) (p' := 568) (s' := [.ref 0, .int (xs (n + 2)), .int (xs (n + 1)), .ref 1]) rfl rfl rfl ?_
  refine ev_x (i := .iload 4) (len := 2) (p' := 570) (s' := [.int (nI n), .ref 0, .int (xs (n + 2)), .int (xs (n + 1)), .ref 1]) rfl rfl rfl ?_
  refine ev_x (i := .iconst 3) (len := 1) (p' := 571) (s' := [.int 3, .int (nI n), .ref 0, .int (xs (n + 2)), .int (xs (n + 1)), .ref 1]) rfl rfl rfl ?_
  refine ev_x (i := .iadd) (len := 1) (p' := 572) (s' := [.int ((nI n) + 3), .ref 0, .int (xs (n + 2)), .int (xs (n + 1)), .ref 1]) rfl rfl rfl ?_
  refine ev_st (st' := [.int (nI (n + 3)), .ref 0, .int (xs (n + 2)), .int (xs (n + 1)), .ref 1]) (congrArg (fun z => Value.int z :: [.ref 0, .int (xs (n + 2)), .int (xs (n + 1)), .ref 1]) (nI_add n 3)) ?_
  refine ev_sg (p' := 573) rfl rfl hs (vp_in_nI (by omega) (by omega)) rfl ?_
  refine ev_st (st' := [.int (xs (n + 3)), .int (xs (n + 2)), .int (xs (n + 1)), .ref 1]) (congrArg (fun z => Value.int (xs z) :: [.int (xs (n + 2)), .int (xs (n + 1)), .ref 1]) (nI_clamp (n := n + 3) (by omega))) ?_
  refine ev_x (i := .aload_n 0) (len := 1) (p' := 574) (s' := [.ref 0, .int (xs (n + 3)), .int (xs (n + 2)), .int (xs (n + 1)), .ref 1]) rfl rfl rfl ?_
  refine ev_x (i := .iload 4) (len := 2) (p' := 576) (s' := [.int (nI n), .ref 0, .int (xs (n + 3)), .int (xs (n + 2)), .int (xs (n + 1)), .ref 1]) rfl rfl rfl ?_
  refine ev_x (i := .iconst 4) (len := 1) (p' := 577) (s' := [.int 4, .int (nI n), .ref 0, .int (xs (n + 3)), .int (xs (n + 2)), .int (xs (n + 1)), .ref 1]) rfl rfl rfl ?_
  refine ev_x (i := .iadd) (len := 1) (p' := 578) (s' := [.int ((nI n) + 4), .ref 0, .int (xs (n + 3)), .int (xs (n + 2)), .int (xs (n + 1)), .ref 1]) rfl rfl rfl ?_
  refine ev_st (st' := [.int (nI (n + 4)), .ref 0, .int (xs (n + 3)), .int (xs (n + 2)), .int (xs (n + 1)), .ref 1]) (congrArg (fun z => Value.int z :: [.ref 0, .int (xs (n + 3)), .int (xs (n + 2)), .int (xs (n + 1)), .ref 1]) (nI_add n 4)) ?_
  refine ev_sg (p' := 579) rfl rfl hs (vp_in_nI (by omega) (by omega)) rfl ?_
  refine ev_st (st' := [.int (xs (n + 4)), .int (xs (n + 3)), .int (xs (n + 2)), .int (xs (n + 1)), .ref 1]) (congrArg (fun z => Value.int (xs z) :: [.int (xs (n + 3)), .int (xs (n + 2)), .int (xs (n + 1)), .ref 1]) (nI_clamp (n := n + 4) (by omega))) ?_
  refine ev_cv (d := d + 4) (As := [.int (xs (n + 1)), .int (xs (n + 2)), .int (xs (n + 3)), .int (xs (n + 4))]) (a := 1) (p' := 582) rfl rfl rfl ly_1 rfl rfl rfl rfl rfl rfl rfl (lz_180 (d := d + 0) (c_1 := c_1) (c_2 := c_2) (c_3 := c_3) (c_4 := c_4) (c_5 := c_5) (c_6 := c_6) (c_7 := c_7) (c_8 := c_8)) ?_
  refine ev_st (st' := [.int (-1)]) rfl ?_
  refine ev_x (i := .aload_n 2) (len := 1) (p' := 583) (s' := [.ref 66, .int (-1)]) rfl rfl rfl ?_
  refine ev_x (i := .aload_n 0) (len := 1) (p' := 584) (s' := [.ref 0, .ref 66, .int (-1)]) rfl rfl rfl ?_
  refine ev_x (i := .iload 4) (len := 2) (p' := 586) (s' := [.int (nI n), .ref 0, .ref 66, .int (-1)]) rfl rfl rfl ?_
  refine ev_x (i := .iconst 1) (len := 1) (p' := 587) (s' := [.int 1, .int (nI n), .ref 0, .ref 66, .int (-1)]) rfl rfl rfl ?_
  refine ev_x (i := .iadd) (len := 1) (p' := 588) (s' := [.int ((nI n) + 1), .ref 0, .ref 66, .int (-1)]) rfl rfl rfl ?_
  refine ev_st (st' := [.int (nI (n + 1)), .ref 0, .ref 66, .int (-1)]) (congrArg (fun z => Value.int z :: [.ref 0, .ref 66, .int (-1)]) (nI_add n 1)) ?_
  refine ev_sg (p' := 589) rfl rfl hs (vp_in_nI (by omega) (by omega)) rfl ?_
  refine ev_st (st' := [.int (xs (n + 1)), .ref 66, .int (-1)]) (congrArg (fun z => Value.int (xs z) :: [.ref 66, .int (-1)]) (nI_clamp (n := n + 1) (by omega))) ?_
  refine ev_x (i := .aload_n 0) (len := 1) (p' := 590) (s' := [.ref 0, .int (xs (n + 1)), .ref 66, .int (-1)]) rfl rfl rfl ?_
  refine ev_x (i := .iload 4) (len := 2) (p' := 592) (s' := [.int (nI n), .ref 0, .int (xs (n + 1)), .ref 66, .int (-1)]) rfl rfl rfl ?_
  refine ev_x (i := .iconst 2) (len := 1) (p' := 593) (s' := [.int 2, .int (nI n), .ref 0, .int (xs (n + 1)), .ref 66, .int (-1)]) rfl rfl rfl ?_
  refine ev_x (i := .iadd) (len := 1) (p' := 594) (s' := [.int ((nI n) + 2), .ref 0, .int (xs (n + 1)), .ref 66, .int (-1)]) rfl rfl rfl ?_
  refine ev_st (st' := [.int (nI (n + 2)), .ref 0, .int (xs (n + 1)), .ref 66, .int (-1)]) (congrArg (fun z => Value.int z :: [.ref 0, .int (xs (n + 1)), .ref 66, .int (-1)]) (nI_add n 2)) ?_
  refine ev_sg (p' := 595) rfl rfl hs (vp_in_nI (by omega) (by omega)) rfl ?_
  refine ev_st (st' := [.int (xs (n + 2)), .int (xs (n + 1)), .ref 66, .int (-1)]) (congrArg (fun z => Value.int (xs z) :: [.int (xs (n + 1)), .ref 66, .int (-1)]) (nI_clamp (n := n + 2) (by omega))) ?_
  refine ev_x (i := .aload_n 0) (len := 1) (p' := 596) (s' := [.ref 0, .int (xs (n + 2)), .int (xs (n + 1)), .ref 66, .int (-1)]) rfl rfl rfl ?_
  refine ev_x (i := .iload 4) (len := 2) (p' := 598) (s' := [.int (nI n), .ref 0, .int (xs (n + 2)), .int (xs (n + 1)), .ref 66, .int (-1)]) rfl rfl rfl ?_
  refine ev_x (i := .iconst 3) (len := 1) (p' := 599) (s' := [.int 3, .int (nI n), .ref 0, .int (xs (n + 2)), .int (xs (n + 1)), .ref 66, .int (-1)]) rfl rfl rfl ?_
  refine ev_x (i := .iadd) (len := 1) (p' := 600) (s' := [.int ((nI n) + 3), .ref 0, .int (xs (n + 2)), .int (xs (n + 1)), .ref 66, .int (-1)]) rfl rfl rfl ?_
  refine ev_st (st' := [.int (nI (n + 3)), .ref 0, .int (xs (n + 2)), .int (xs (n + 1)), .ref 66, .int (-1)]) (congrArg (fun z => Value.int z :: [.ref 0, .int (xs (n + 2)), .int (xs (n + 1)), .ref 66, .int (-1)]) (nI_add n 3)) ?_
  refine ev_sg (p' := 601) rfl rfl hs (vp_in_nI (by omega) (by omega)) rfl ?_
  refine ev_st (st' := [.int (xs (n + 3)), .int (xs (n + 2)), .int (xs (n + 1)), .ref 66, .int (-1)]) (congrArg (fun z => Value.int (xs z) :: [.int (xs (n + 2)), .int (xs (n + 1)), .ref 66, .int (-1)]) (nI_clamp (n := n + 3) (by omega))) ?_
  refine ev_x (i := .aload_n 0) (len := 1) (p' := 602) (s' := [.ref 0, .int (xs (n + 3)), .int (xs (n + 2)), .int (xs (n + 1)), .ref 66, .int (-1)]) rfl rfl rfl ?_
  refine ev_x (i := .iload 4) (len := 2) (p' := 604) (s' := [.int (nI n), .ref 0, .int (xs (n + 3)), .int (xs (n + 2)), .int (xs (n + 1)), .ref 66, .int (-1)]) rfl rfl rfl ?_
  refine ev_x (i := .iconst 4) (len := 1) (p' := 605) (s' := [.int 4, .int (nI n), .ref 0, .int (xs (n + 3)), .int (xs (n + 2)), .int (xs (n + 1)), .ref 66, .int (-1)]) rfl rfl rfl ?_
  refine ev_x (i := .iadd) (len := 1) (p' := 606) (s' := [.int ((nI n) + 4), .ref 0, .int (xs (n + 3)), .int (xs (n + 2)), .int (xs (n + 1)), .ref 66, .int (-1)]) rfl rfl rfl ?_
  refine ev_st (st' := [.int (nI (n + 4)), .ref 0, .int (xs (n + 3)), .int (xs (n + 2)), .int (xs (n + 1)), .ref 66, .int (-1)]) (congrArg (fun z => Value.int z :: [.ref 0, .int (xs (n + 3)), .int (xs (n + 2)), .int (xs (n + 1)), .ref 66, .int (-1)]) (nI_add n 4)) ?_
  refine ev_sg (p' := 607) rfl rfl hs (vp_in_nI (by omega) (by omega)) rfl ?_
  refine ev_st (st' := [.int (xs (n + 4)), .int (xs (n + 3)), .int (xs (n + 2)), .int (xs (n + 1)), .ref 66, .int (-1)]) (congrArg (fun z => Value.int (xs z) :: [.int (xs (n + 3)), .int (xs (n + 2)), .int (xs (n + 1)), .ref 66, .int (-1)]) (nI_clamp (n := n + 4) (by omega))) ?_
  refine ev_cv (d := d + 4) (As := [.int (xs (n + 1)), .int (xs (n + 2)), .int (xs (n + 3)), .int (xs (n + 4))]) (a := 66) (p' := 610) rfl rfl rfl ly_66 rfl rfl rfl rfl rfl rfl rfl (lz_183 (d := d + 1) (c_1 := c_1) (c_2 := c_9) (c_3 := c_3) (c_4 := c_10) (c_5 := c_11) (c_6 := c_8)) ?_
  refine ev_st (st' := [.int (-1), .int (-1)]) rfl ?_
  refine ev_b2 (t := 615) (p' := 615) rfl rfl rfl (by decide) ?_
  exact k
set_option maxHeartbeats 4000000 in
set_option maxRecDepth 100000 in
/-- GameTextLaw.law([I)Z -/
theorem lw_13k_a1 {d : Nat} {σ : st_S} {x_b x_k : Int32} {q : vz_O × vz_H} {n L : Nat} {xs : Nat → Int32} (hs : gF σ 0 = .inl (0, L, .inl xs)) (hn : n + 6 ≤ L) (hL : L ≤ 3072) (c_1 : ¬ ((xs (n + 1)) < 0)) (c_2 : ¬ ((σ.1 52 10) ≤ (xs (n + 1)))) (c_3 : ¬ ((xs (n + 2)) < 0)) (c_4 : vp_in ((xs (n + 1)) + 1) (gN σ 56)) (c_5 : vp_in (xs (n + 1)) (gN σ 56)) (c_6 : (xs (n + 2)) < ((gE σ 56 ((((xs (n + 1)) + 1)).toNatClampNeg)) - (gE σ 56 (((xs (n + 1))).toNatClampNeg)))) (c_7 : ¬ (((gE σ 56 (((xs (n + 1))).toNatClampNeg)) + (xs (n + 2))) < 0)) (c_8 : ¬ ((xs (n + 3)) < 0)) (c_9 : vp_in (((gE σ 56 (((xs (n + 1))).toNatClampNeg)) + (xs (n + 2))) + 1) (gN σ 58)) (c_10 : vp_in ((gE σ 56 (((xs (n + 1))).toNatClampNeg)) + (xs (n + 2))) (gN σ 58)) (c_11 : ¬ ((xs (n + 3)) < ((gE σ 58 (((((gE σ 56 (((xs (n + 1))).toNatClampNeg)) + (xs (n + 2))) + 1)).toNatClampNeg)) - (gE σ 58 ((((gE σ 56 (((xs (n + 1))).toNatClampNeg)) + (xs (n + 2)))).toNatClampNeg))))) (c_12 : ¬ ((σ.1 66 29) ≤ (xs (n + 1)))) (c_13 : vp_in (xs (n + 1)) (gN σ 174)) (c_14 : ¬ ((gE σ 174 (((xs (n + 1))).toNatClampNeg)) ≤ (xs (n + 2)))) (c_15 : vp_in (xs (n + 1)) (gN σ 173)) (c_16 : vp_in ((gE σ 173 (((xs (n + 1))).toNatClampNeg)) + (xs (n + 2))) (gN σ 180)) (c_17 : (gE σ 180 ((((gE σ 173 (((xs (n + 1))).toNatClampNeg)) + (xs (n + 2)))).toNatClampNeg)) ≤ (xs (n + 3))) (k : vz_ev P0 (d + 5) 0 615 [(4, .int (nI n)), (6, .int x_b), (5, .int x_k), (3, .ref 187), (2, .ref 66), (1, .ref 1), (0, .ref 0)] [] (hp (st_i (σ) 66 0 0)) q) : vz_ev P0 (d + 5) 0 554 [(4, .int (nI n)), (6, .int x_b), (5, .int x_k), (3, .ref 187), (2, .ref 66), (1, .ref 1), (0, .ref 0)] [] (hp σ) q := by
  refine ev_x (i := .aload_n 1) (len := 1) (p' := 555) (s' := [.ref 1]) rfl rfl rfl ?_
  refine ev_x (i := .aload_n 0) (len := 1) (p' := 556) (s' := [.ref 0, .ref 1]) rfl rfl rfl ?_
  refine ev_x (i := .iload 4) (len := 2) (p' := 558) (s' := [.int (nI n), .ref 0, .ref 1]) rfl rfl rfl ?_
  refine ev_x (i := .iconst 1) (len := 1) (p' := 559) (s' := [.int 1, .int (nI n), .ref 0, .ref 1]) rfl rfl rfl ?_
  refine ev_x (i := .iadd) (len := 1) (p' := 560) (s' := [.int ((nI n) + 1), .ref 0, .ref 1]) rfl rfl rfl ?_
  refine ev_st (st' := [.int (nI (n + 1)), .ref 0, .ref 1]) (congrArg (fun z => Value.int z :: [.ref 0, .ref 1]) (nI_add n 1)) ?_
  refine ev_sg (p' := 561) rfl rfl hs (vp_in_nI (by omega) (by omega)) rfl ?_
  refine ev_st (st' := [.int (xs (n + 1)), .ref 1]) (congrArg (fun z => Value.int (xs z) :: [.ref 1]) (nI_clamp (n := n + 1) (by omega))) ?_
  refine ev_x (i := .aload_n 0) (len := 1) (p' := 562) (s' := [.ref 0, .int (xs (n + 1)), .ref 1]) rfl rfl rfl ?_
  refine ev_x (i := .iload 4) (len := 2) (p' := 564) (s' := [.int (nI n), .ref 0, .int (xs (n + 1)), .ref 1]) rfl rfl rfl ?_
  refine ev_x (i := .iconst 2) (len := 1) (p' := 565) (s' := [.int 2, .int (nI n), .ref 0, .int (xs (n + 1)), .ref 1]) rfl rfl rfl ?_
  refine ev_x (i := .iadd) (len := 1) (p' := 566) (s' := [.int ((nI n) + 2), .ref 0, .int (xs (n + 1)), .ref 1]) rfl rfl rfl ?_
  refine ev_st (st' := [.int (nI (n + 2)), .ref 0, .int (xs (n + 1)), .ref 1]) (congrArg (fun z => Value.int z :: [.ref 0, .int (xs (n + 1)), .ref 1]) (nI_add n 2)) ?_
  refine ev_sg (p' := 567) rfl rfl hs (vp_in_nI (by omega) (by omega)) rfl ?_
  refine ev_st (st' := [.int (xs (n + 2)), .int (xs (n + 1)), .ref 1]) (congrArg (fun z => Value.int (xs z) :: [.int (xs (n + 1)), .ref 1]) (nI_clamp (n := n + 2) (by omega))) ?_
  refine ev_x (i := .aload_n 0) (len := 1) (p' := 568) (s' := [.ref 0, .int (xs (n + 2)), .int (xs (n + 1)), .ref 1]) rfl rfl rfl ?_
  refine ev_x (i := .iload 4) (len := 2) (p' := 570) (s' := [.int (nI n), .ref 0, .int (xs (n + 2)), .int (xs (n + 1)), .ref 1]) rfl rfl rfl ?_
  refine ev_x (i := .iconst 3) (len := 1) (p' := 571) (s' := [.int 3, .int (nI n), .ref 0, .int (xs (n + 2)), .int (xs (n + 1)), .ref 1]) rfl rfl rfl ?_
  refine ev_x (i := .iadd) (len := 1) (p' := 572) (s' := [.int ((nI n) + 3), .ref 0, .int (xs (n + 2)), .int (xs (n + 1)), .ref 1]) rfl rfl rfl ?_
  refine ev_st (st' := [.int (nI (n + 3)), .ref 0, .int (xs (n + 2)), .int (xs (n + 1)), .ref 1]) (congrArg (fun z => Value.int z :: [.ref 0, .int (xs (n + 2)), .int (xs (n + 1)), .ref 1]) (nI_add n 3)) ?_
  refine ev_sg (p' := 573) rfl rfl hs (vp_in_nI (by omega) (by omega)) rfl ?_
  refine ev_st (st' := [.int (xs (n + 3)), .int (xs (n + 2)), .int (xs (n + 1)), .ref 1]) (congrArg (fun z => Value.int (xs z) :: [.int (xs (n + 2)), .int (xs (n + 1)), .ref 1]) (nI_clamp (n := n + 3) (by omega))) ?_
  refine ev_x (i := .aload_n 0) (len := 1) (p' := 574) (s' := [.ref 0, .int (xs (n + 3)), .int (xs (n + 2)), .int (xs (n + 1)), .ref 1]) rfl rfl rfl ?_
  refine ev_x (i := .iload 4) (len := 2) (p' := 576) (s' := [.int (nI n), .ref 0, .int (xs (n + 3)), .int (xs (n + 2)), .int (xs (n + 1)), .ref 1]) rfl rfl rfl ?_
  refine ev_x (i := .iconst 4) (len := 1) (p' := 577) (s' := [.int 4, .int (nI n), .ref 0, .int (xs (n + 3)), .int (xs (n + 2)), .int (xs (n + 1)), .ref 1]) rfl rfl rfl ?_
  refine ev_x (i := .iadd) (len := 1) (p' := 578) (s' := [.int ((nI n) + 4), .ref 0, .int (xs (n + 3)), .int (xs (n + 2)), .int (xs (n + 1)), .ref 1]) rfl rfl rfl ?_
  refine ev_st (st' := [.int (nI (n + 4)), .ref 0, .int (xs (n + 3)), .int (xs (n + 2)), .int (xs (n + 1)), .ref 1]) (congrArg (fun z => Value.int z :: [.ref 0, .int (xs (n + 3)), .int (xs (n + 2)), .int (xs (n + 1)), .ref 1]) (nI_add n 4)) ?_
  refine ev_sg (p' := 579) rfl rfl hs (vp_in_nI (by omega) (by omega)) rfl ?_
  refine ev_st (st' := [.int (xs (n + 4)), .int (xs (n + 3)), .int (xs (n + 2)), .int (xs (n + 1)), .ref 1]) (congrArg (fun z => Value.int (xs z) :: [.int (xs (n + 3)), .int (xs (n + 2)), .int (xs (n + 1)), .ref 1]) (nI_clamp (n := n + 4) (by omega))) ?_
  refine ev_cv (d := d + 4) (As := [.int (xs (n + 1)), .int (xs (n + 2)), .int (xs (n + 3)), .int (xs (n + 4))]) (a := 1) (p' := 582) rfl rfl rfl ly_1 rfl rfl rfl rfl rfl rfl rfl (lz_188 (d := d + 0) (c_1 := c_1) (c_2 := c_2) (c_3 := c_3) (c_4 := c_4) (c_5 := c_5) (c_6 := c_6) (c_7 := c_7) (c_8 := c_8) (c_9 := c_9) (c_10 := c_10) (c_11 := c_11)) ?_
  refine ev_st (st' := [.int (-1)]) rfl ?_
  refine ev_x (i := .aload_n 2) (len := 1) (p' := 583) (s' := [.ref 66, .int (-1)]) rfl rfl rfl ?_
  refine ev_x (i := .aload_n 0) (len := 1) (p' := 584) (s' := [.ref 0, .ref 66, .int (-1)]) rfl rfl rfl ?_
  refine ev_x (i := .iload 4) (len := 2) (p' := 586) (s' := [.int (nI n), .ref 0, .ref 66, .int (-1)]) rfl rfl rfl ?_
  refine ev_x (i := .iconst 1) (len := 1) (p' := 587) (s' := [.int 1, .int (nI n), .ref 0, .ref 66, .int (-1)]) rfl rfl rfl ?_
  refine ev_x (i := .iadd) (len := 1) (p' := 588) (s' := [.int ((nI n) + 1), .ref 0, .ref 66, .int (-1)]) rfl rfl rfl ?_
  refine ev_st (st' := [.int (nI (n + 1)), .ref 0, .ref 66, .int (-1)]) (congrArg (fun z => Value.int z :: [.ref 0, .ref 66, .int (-1)]) (nI_add n 1)) ?_
  refine ev_sg (p' := 589) rfl rfl hs (vp_in_nI (by omega) (by omega)) rfl ?_
  refine ev_st (st' := [.int (xs (n + 1)), .ref 66, .int (-1)]) (congrArg (fun z => Value.int (xs z) :: [.ref 66, .int (-1)]) (nI_clamp (n := n + 1) (by omega))) ?_
  refine ev_x (i := .aload_n 0) (len := 1) (p' := 590) (s' := [.ref 0, .int (xs (n + 1)), .ref 66, .int (-1)]) rfl rfl rfl ?_
  refine ev_x (i := .iload 4) (len := 2) (p' := 592) (s' := [.int (nI n), .ref 0, .int (xs (n + 1)), .ref 66, .int (-1)]) rfl rfl rfl ?_
  refine ev_x (i := .iconst 2) (len := 1) (p' := 593) (s' := [.int 2, .int (nI n), .ref 0, .int (xs (n + 1)), .ref 66, .int (-1)]) rfl rfl rfl ?_
  refine ev_x (i := .iadd) (len := 1) (p' := 594) (s' := [.int ((nI n) + 2), .ref 0, .int (xs (n + 1)), .ref 66, .int (-1)]) rfl rfl rfl ?_
  refine ev_st (st' := [.int (nI (n + 2)), .ref 0, .int (xs (n + 1)), .ref 66, .int (-1)]) (congrArg (fun z => Value.int z :: [.ref 0, .int (xs (n + 1)), .ref 66, .int (-1)]) (nI_add n 2)) ?_
  refine ev_sg (p' := 595) rfl rfl hs (vp_in_nI (by omega) (by omega)) rfl ?_
  refine ev_st (st' := [.int (xs (n + 2)), .int (xs (n + 1)), .ref 66, .int (-1)]) (congrArg (fun z => Value.int (xs z) :: [.int (xs (n + 1)), .ref 66, .int (-1)]) (nI_clamp (n := n + 2) (by omega))) ?_
  refine ev_x (i := .aload_n 0) (len := 1) (p' := 596) (s' := [.ref 0, .int (xs (n + 2)), .int (xs (n + 1)), .ref 66, .int (-1)]) rfl rfl rfl ?_
  refine ev_x (i := .iload 4) (len := 2) (p' := 598) (s' := [.int (nI n), .ref 0, .int (xs (n + 2)), .int (xs (n + 1)), .ref 66, .int (-1)]) rfl rfl rfl ?_
  refine ev_x (i := .iconst 3) (len := 1) (p' := 599) (s' := [.int 3, .int (nI n), .ref 0, .int (xs (n + 2)), .int (xs (n + 1)), .ref 66, .int (-1)]) rfl rfl rfl ?_
  refine ev_x (i := .iadd) (len := 1) (p' := 600) (s' := [.int ((nI n) + 3), .ref 0, .int (xs (n + 2)), .int (xs (n + 1)), .ref 66, .int (-1)]) rfl rfl rfl ?_
  refine ev_st (st' := [.int (nI (n + 3)), .ref 0, .int (xs (n + 2)), .int (xs (n + 1)), .ref 66, .int (-1)]) (congrArg (fun z => Value.int z :: [.ref 0, .int (xs (n + 2)), .int (xs (n + 1)), .ref 66, .int (-1)]) (nI_add n 3)) ?_
  refine ev_sg (p' := 601) rfl rfl hs (vp_in_nI (by omega) (by omega)) rfl ?_
  refine ev_st (st' := [.int (xs (n + 3)), .int (xs (n + 2)), .int (xs (n + 1)), .ref 66, .int (-1)]) (congrArg (fun z => Value.int (xs z) :: [.int (xs (n + 2)), .int (xs (n + 1)), .ref 66, .int (-1)]) (nI_clamp (n := n + 3) (by omega))) ?_
  refine ev_x (i := .aload_n 0) (len := 1) (p' := 602) (s' := [.ref 0, .int (xs (n + 3)), .int (xs (n + 2)), .int (xs (n + 1)), .ref 66, .int (-1)]) rfl rfl rfl ?_
  refine ev_x (i := .iload 4) (len := 2) (p' := 604) (s' := [.int (nI n), .ref 0, .int (xs (n + 3)), .int (xs (n + 2)), .int (xs (n + 1)), .ref 66, .int (-1)]) rfl rfl rfl ?_
  refine ev_x (i := .iconst 4) (len := 1) (p' := 605) (s' := [.int 4, .int (nI n), .ref 0, .int (xs (n + 3)), .int (xs (n + 2)), .int (xs (n + 1)), .ref 66, .int (-1)]) rfl rfl rfl ?_
  refine ev_x (i := .iadd) (len := 1) (p' := 606) (s' := [.int ((nI n) + 4), .ref 0, .int (xs (n + 3)), .int (xs (n + 2)), .int (xs (n + 1)), .ref 66, .int (-1)]) rfl rfl rfl ?_
  refine ev_st (st' := [.int (nI (n + 4)), .ref 0, .int (xs (n + 3)), .int (xs (n + 2)), .int (xs (n + 1)), .ref 66, .int (-1)]) (congrArg (fun z => Value.int z :: [.ref 0, .int (xs (n + 3)), .int (xs (n + 2)), .int (xs (n + 1)), .ref 66, .int (-1)]) (nI_add n 4)) ?_
  refine ev_sg (p' := 607) rfl rfl hs (vp_in_nI (by omega) (by omega)) rfl ?_
  refine ev_st (st' := [.int (xs (n + 4)), .int (xs (n + 3)), .int (xs (n + 2)), .int (xs (n + 1)), .ref 66, .int (-1)]) (congrArg (fun z => Value.int (xs z) :: [.int (xs (n + 3)), .int (xs (n + 2)), .int (xs (n + 1)), .ref 66, .int (-1)]) (nI_clamp (n := n + 4) (by omega))) ?_
  refine ev_cv (d := d + 4) (As := [.int (xs (n + 1)), .int (xs (n + 2)), .int (xs (n + 3)), .int (xs (n + 4))]) (a := 66) (p' := 610) rfl rfl rfl ly_66 rfl rfl rfl rfl rfl rfl rfl (lz_192 (d := d + 1) (c_1 := c_1) (c_2 := c_12) (c_3 := c_3) (c_4 := c_13) (c_5 := c_14) (c_6 := c_8) (c_7 := c_15) (c_8 := c_16) (c_9 := c_17)) ?_
  refine ev_st (st' := [.int (-1), .int (-1)]) rfl ?_
  refine ev_b2 (t := 615) (p' := 615) rfl rfl rfl (by decide) ?_
  exact k
set_option maxHeartbeats 4000000 in
set_option maxRecDepth 100000 in
/-- GameTextLaw.law([I)Z -/
theorem lw_130_a1 {d : Nat} {σ : st_S} {x_b x_k : Int32} {q : vz_O × vz_H} {n L : Nat} {xs : Nat → Int32} (hs : gF σ 0 = .inl (0, L, .inl xs)) (hn : n + 6 ≤ L) (hL : L ≤ 3072) (c_1 : ¬ ((xs (n + 1)) < 0)) (c_2 : ¬ ((σ.1 52 10) ≤ (xs (n + 1)))) (c_3 : ¬ ((xs (n + 2)) < 0)) (c_4 : vp_in ((xs (n + 1)) + 1) (gN σ 56)) (c_5 : vp_in (xs (n + 1)) (gN σ 56)) (c_6 : (xs (n + 2)) < ((gE σ 56 ((((xs (n + 1)) + 1)).toNatClampNeg)) - (gE σ 56 (((xs (n + 1))).toNatClampNeg)))) (c_7 : ¬ (((gE σ 56 (((xs (n + 1))).toNatClampNeg)) + (xs (n + 2))) < 0)) (c_8 : ¬ ((xs (n + 3)) < 0)) (c_9 : vp_in (((gE σ 56 (((xs (n + 1))).toNatClampNeg)) + (xs (n + 2))) + 1) (gN σ 58)) (c_10 : vp_in ((gE σ 56 (((xs (n + 1))).toNatClampNeg)) + (xs (n + 2))) (gN σ 58)) (c_11 : (xs (n + 3)) < ((gE σ 58 (((((gE σ 56 (((xs (n + 1))).toNatClampNeg)) + (xs (n + 2))) + 1)).toNatClampNeg)) - (gE σ 58 ((((gE σ 56 (((xs (n + 1))).toNatClampNeg)) + (xs (n + 2)))).toNatClampNeg)))) (c_12 : 0 ≤ ((gE σ 58 ((((gE σ 56 (((xs (n + 1))).toNatClampNeg)) + (xs (n + 2)))).toNatClampNeg)) + (xs (n + 3)))) (c_13 : (xs (n + 4)) = 0) (c_14 : vp_in ((gE σ 58 ((((gE σ 56 (((xs (n + 1))).toNatClampNeg)) + (xs (n + 2)))).toNatClampNeg)) + (xs (n + 3))) (gN σ 59)) (c_15 : ¬ ((σ.1 66 29) ≤ (xs (n + 1)))) (c_16 : vp_in (xs (n + 1)) (gN σ 174)) (c_17 : ¬ ((gE σ 174 (((xs (n + 1))).toNatClampNeg)) ≤ (xs (n + 2)))) (c_18 : vp_in (xs (n + 1)) (gN σ 173)) (c_19 : vp_in ((gE σ 173 (((xs (n + 1))).toNatClampNeg)) + (xs (n + 2))) (gN σ 180)) (c_20 : ¬ ((gE σ 180 ((((gE σ 173 (((xs (n + 1))).toNatClampNeg)) + (xs (n + 2)))).toNatClampNeg)) ≤ (xs (n + 3)))) (c_21 : ¬ ((xs (n + 4)) < 0)) (c_22 : (xs (n + 4)) ≤ 2) (c_23 : vp_in ((gE σ 173 (((xs (n + 1))).toNatClampNeg)) + (xs (n + 2))) (gN σ 178)) (c_24 : ¬ (¬ (xs (n + 4)) = 0)) (c_25 : vp_in ((gE σ 178 ((((gE σ 173 (((xs (n + 1))).toNatClampNeg)) + (xs (n + 2)))).toNatClampNeg)) + (xs (n + 3))) (gN σ 181)) (c_26 : (gE σ 59 ((((gE σ 58 ((((gE σ 56 (((xs (n + 1))).toNatClampNeg)) + (xs (n + 2)))).toNatClampNeg)) + (xs (n + 3)))).toNatClampNeg)) = (gE σ 181 ((((gE σ 178 ((((gE σ 173 (((xs (n + 1))).toNatClampNeg)) + (xs (n + 2)))).toNatClampNeg)) + (xs (n + 3)))).toNatClampNeg))) (k : vz_ev P0 (d + 5) 0 615 [(4, .int (nI n)), (6, .int x_b), (5, .int x_k), (3, .ref 187), (2, .ref 66), (1, .ref 1), (0, .ref 0)] [] (hp (st_i (σ) 66 0 0)) q) : vz_ev P0 (d + 5) 0 554 [(4, .int (nI n)), (6, .int x_b), (5, .int x_k), (3, .ref 187), (2, .ref 66), (1, .ref 1), (0, .ref 0)] [] (hp σ) q := by
  refine ev_x (i := .aload_n 1) (len := 1) (p' := 555) (s' := [.ref 1]) rfl rfl rfl ?_
  refine ev_x (i := .aload_n 0) (len := 1) (p' := 556) (s' := [.ref 0, .ref 1]) rfl rfl rfl ?_
  refine ev_x (i := .iload 4) (len := 2) (p' := 558) (s' := [.int (nI n), .ref 0, .ref 1]) rfl rfl rfl ?_
  refine ev_x (i := .iconst 1) (len := 1) (p' := 559) (s' := [.int 1, .int (nI n), .ref 0, .ref 1]) rfl rfl rfl ?_
  refine ev_x (i := .iadd) (len := 1) (p' := 560) (s' := [.int ((nI n) + 1), .ref 0, .ref 1]) rfl rfl rfl ?_
  refine ev_st (st' := [.int (nI (n + 1)), .ref 0, .ref 1]) (congrArg (fun z => Value.int z :: [.ref 0, .ref 1]) (nI_add n 1)) ?_
  refine ev_sg (p' := 561) rfl rfl hs (vp_in_nI (by omega) (by omega)) rfl ?_
  refine ev_st (st' := [.int (xs (n + 1)), .ref 1]) (congrArg (fun z => Value.int (xs z) :: [.ref 1]) (nI_clamp (n := n + 1) (by omega))) ?_
  refine ev_x (i := .aload_n 0) (len := 1) (p' := 562) (s' := [.ref 0, .int (xs (n + 1)), .ref 1]) rfl rfl rfl ?_
  refine ev_x (i := .iload 4) (len := 2) (p' := 564) (s' := [.int (nI n), .ref 0, .int (xs (n + 1)), .ref 1]) rfl rfl rfl ?_
  refine ev_x (i := .iconst 2) (len := 1) (p' := 565) (s' := [.int 2, .int (nI n), .ref 0, .int (xs (n + 1)), .ref 1]) rfl rfl rfl ?_
  refine ev_x (i := .iadd) (len := 1) (p' := 566) (s' := [.int ((nI n) + 2), .ref 0, .int (xs (n + 1)), .ref 1]) rfl rfl rfl ?_
  refine ev_st (st' := [.int (nI (n + 2)), .ref 0, .int (xs (n + 1)), .ref 1]) (congrArg (fun z => Value.int z :: [.ref 0, .int (xs (n + 1)), .ref 1]) (nI_add n 2)) ?_
  refine ev_sg (p' := 567) rfl rfl hs (vp_in_nI (by omega) (by omega)) rfl ?_
  refine ev_st (st' := [.int (xs (n + 2)), .int (xs (n + 1)), .ref 1]) (congrArg (fun z => Value.int (xs z) :: [.int (xs (n + 1)), .ref 1]) (nI_clamp (n := n + 2) (by omega))) ?_
  refine ev_x (i := .aload_n 0) (len := 1) (p' := 568) (s' := [.ref 0, .int (xs (n + 2)), .int (xs (n + 1)), .ref 1]) rfl rfl rfl ?_
  refine ev_x (i := .iload 4) (len := 2) (p' := 570) (s' := [.int (nI n), .ref 0, .int (xs (n + 2)), .int (xs (n + 1)), .ref 1]) rfl rfl rfl ?_
  refine ev_x (i := .iconst 3) (len := 1) (p' := 571) (s' := [.int 3, .int (nI n), .ref 0, .int (xs (n + 2)), .int (xs (n + 1)), .ref 1]) rfl rfl rfl ?_
  refine ev_x (i := .iadd) (len := 1) (p' := 572) (s' := [.int ((nI n) + 3), .ref 0, .int (xs (n + 2)), .int (xs (n + 1)), .ref 1]) rfl rfl rfl ?_
  refine ev_st (st' := [.int (nI (n + 3)), .ref 0, .int (xs (n + 2)), .int (xs (n + 1)), .ref 1]) (congrArg (fun z => Value.int z :: [.ref 0, .int (xs (n + 2)), .int (xs (n + 1)), .ref 1]) (nI_add n 3)) ?_
  refine ev_sg (p' := 573) rfl rfl hs (vp_in_nI (by omega) (by omega)) rfl ?_
  refine ev_st (st' := [.int (xs (n + 3)), .int (xs (n + 2)), .int (xs (n + 1)), .ref 1]) (congrArg (fun z => Value.int (xs z) :: [.int (xs (n + 2)), .int (xs (n + 1)), .ref 1]) (nI_clamp (n := n + 3) (by omega))) ?_
  refine ev_x (i := .aload_n 0) (len := 1) (p' := 574) (s' := [.ref 0, .int (xs (n + 3)), .int (xs (n + 2)), .int (xs (n + 1)), .ref 1]) rfl rfl rfl ?_
  refine ev_x (i := .iload 4) (len := 2) (p' := 576) (s' := [.int (nI n), .ref 0, .int (xs (n + 3)), .int (xs (n + 2)), .int (xs (n + 1)), .ref 1]) rfl rfl rfl ?_
  refine ev_x (i := .iconst 4) (len := 1) (p' := 577) (s' := [.int 4, .int (nI n), .ref 0, .int (xs (n + 3)), .int (xs (n + 2)), .int (xs (n + 1)), .ref 1]) rfl rfl rfl ?_
  refine ev_x (i := .iadd) (len := 1) (p' := 578) (s' := [.int ((nI n) + 4), .ref 0, .int (xs (n + 3)), .int (xs (n + 2)), .int (xs (n + 1)), .ref 1]) rfl rfl rfl ?_
  refine ev_st (st' := [.int (nI (n + 4)), .ref 0, .int (xs (n + 3)), .int (xs (n + 2)), .int (xs (n + 1)), .ref 1]) (congrArg (fun z => Value.int z :: [.ref 0, .int (xs (n + 3)), .int (xs (n + 2)), .int (xs (n + 1)), .ref 1]) (nI_add n 4)) ?_
  refine ev_sg (p' := 579) rfl rfl hs (vp_in_nI (by omega) (by omega)) rfl ?_
  refine ev_st (st' := [.int (xs (n + 4)), .int (xs (n + 3)), .int (xs (n + 2)), .int (xs (n + 1)), .ref 1]) (congrArg (fun z => Value.int (xs z) :: [.int (xs (n + 3)), .int (xs (n + 2)), .int (xs (n + 1)), .ref 1]) (nI_clamp (n := n + 4) (by omega))) ?_
  refine ev_cv (d := d + 4) (As := [.int (xs (n + 1)), .int (xs (n + 2)), .int (xs (n + 3)), .int (xs (n + 4))]) (a := 1) (p' := 582) rfl rfl rfl ly_1 rfl rfl rfl rfl rfl rfl rfl (lz_197 (d := d + 0) (c_1 := c_1) (c_2 := c_2) (c_3 := c_3) (c_4 := c_4) (c_5 := c_5) (c_6 := c_6) (c_7 := c_7) (c_8 := c_8) (c_9 := c_9) (c_10 := c_10) (c_11 := c_11) (c_12 := c_12) (c_13 := c_13) (c_14 := c_14)) ?_
  refine ev_st (st' := [.int (gE σ 59 ((((gE σ 58 ((((gE σ 56 (((xs (n + 1))).toNatClampNeg)) + (xs (n + 2)))).toNatClampNeg)) + (xs (n + 3)))).toNatClampNeg))]) rfl ?_
  refine ev_x (i := .aload_n 2) (len := 1) (p' := 583) (s' := [.ref 66, .int (gE σ 59 ((((gE σ 58 ((((gE σ 56 (((xs (n + 1))).toNatClampNeg)) + (xs (n + 2)))).toNatClampNeg)) + (xs (n + 3)))).toNatClampNeg))]) rfl rfl rfl ?_
  refine ev_x (i := .aload_n 0) (len := 1) (p' := 584) (s' := [.ref 0, .ref 66, .int (gE σ 59 ((((gE σ 58 ((((gE σ 56 (((xs (n + 1))).toNatClampNeg)) + (xs (n + 2)))).toNatClampNeg)) + (xs (n + 3)))).toNatClampNeg))]) rfl rfl rfl ?_
  refine ev_x (i := .iload 4) (len := 2) (p' := 586) (s' := [.int (nI n), .ref 0, .ref 66, .int (gE σ 59 ((((gE σ 58 ((((gE σ 56 (((xs (n + 1))).toNatClampNeg)) + (xs (n + 2)))).toNatClampNeg)) + (xs (n + 3)))).toNatClampNeg))]) rfl rfl rfl ?_
  refine ev_x (i := .iconst 1) (len := 1) (p' := 587) (s' := [.int 1, .int (nI n), .ref 0, .ref 66, .int (gE σ 59 ((((gE σ 58 ((((gE σ 56 (((xs (n + 1))).toNatClampNeg)) + (xs (n + 2)))).toNatClampNeg)) + (xs (n + 3)))).toNatClampNeg))]) rfl rfl rfl ?_
  refine ev_x (i := .iadd) (len := 1) (p' := 588) (s' := [.int ((nI n) + 1), .ref 0, .ref 66, .int (gE σ 59 ((((gE σ 58 ((((gE σ 56 (((xs (n + 1))).toNatClampNeg)) + (xs (n + 2)))).toNatClampNeg)) + (xs (n + 3)))).toNatClampNeg))]) rfl rfl rfl ?_
  refine ev_st (st' := [.int (nI (n + 1)), .ref 0, .ref 66, .int (gE σ 59 ((((gE σ 58 ((((gE σ 56 (((xs (n + 1))).toNatClampNeg)) + (xs (n + 2)))).toNatClampNeg)) + (xs (n + 3)))).toNatClampNeg))]) (congrArg (fun z => Value.int z :: [.ref 0, .ref 66, .int (gE σ 59 ((((gE σ 58 ((((gE σ 56 (((xs (n + 1))).toNatClampNeg)) + (xs (n + 2)))).toNatClampNeg)) + (xs (n + 3)))).toNatClampNeg))]) (nI_add n 1)) ?_
  refine ev_sg (p' := 589) rfl rfl hs (vp_in_nI (by omega) (by omega)) rfl ?_
  refine ev_st (st' := [.int (xs (n + 1)), .ref 66, .int (gE σ 59 ((((gE σ 58 ((((gE σ 56 (((xs (n + 1))).toNatClampNeg)) + (xs (n + 2)))).toNatClampNeg)) + (xs (n + 3)))).toNatClampNeg))]) (congrArg (fun z => Value.int (xs z) :: [.ref 66, .int (gE σ 59 ((((gE σ 58 ((((gE σ 56 (((xs (n + 1))).toNatClampNeg)) + (xs (n + 2)))).toNatClampNeg)) + (xs (n + 3)))).toNatClampNeg))]) (nI_clamp (n := n + 1) (by omega))) ?_
  refine ev_x (i := .aload_n 0) (len := 1) (p' := 590) (s' := [.ref 0, .int (xs (n + 1)), .ref 66, .int (gE σ 59 ((((gE σ 58 ((((gE σ 56 (((xs (n + 1))).toNatClampNeg)) + (xs (n + 2)))).toNatClampNeg)) + (xs (n + 3)))).toNatClampNeg))]) rfl rfl rfl ?_
  refine ev_x (i := .iload 4) (len := 2) (p' := 592) (s' := [.int (nI n), .ref 0, .int (xs (n + 1)), .ref 66, .int (gE σ 59 ((((gE σ 58 ((((gE σ 56 (((xs (n + 1))).toNatClampNeg)) + (xs (n + 2)))).toNatClampNeg)) + (xs (n + 3)))).toNatClampNeg))]) rfl rfl rfl ?_
  refine ev_x (i := .iconst 2) (len := 1) (p' := 593) (s' := [.int 2, .int (nI n), .ref 0, .int (xs (n + 1)), .ref 66, .int (gE σ 59 ((((gE σ 58 ((((gE σ 56 (((xs (n + 1))).toNatClampNeg)) + (xs (n + 2)))).toNatClampNeg)) + (xs (n + 3)))).toNatClampNeg))]) rfl rfl rfl ?_
  refine ev_x (i := .iadd) (len := 1) (p' := 594) (s' := [.int ((nI n) + 2), .ref 0, .int (xs (n + 1)), .ref 66, .int (gE σ 59 ((((gE σ 58 ((((gE σ 56 (((xs (n + 1))).toNatClampNeg)) + (xs (n + 2)))).toNatClampNeg)) + (xs (n + 3)))).toNatClampNeg))]) rfl rfl rfl ?_
  refine ev_st (st' := [.int (nI (n + 2)), .ref 0, .int (xs (n + 1)), .ref 66, .int (gE σ 59 ((((gE σ 58 ((((gE σ 56 (((xs (n + 1))).toNatClampNeg)) + (xs (n + 2)))).toNatClampNeg)) + (xs (n + 3)))).toNatClampNeg))]) (congrArg (fun z => Value.int z :: [.ref 0, .int (xs (n + 1)), .ref 66, .int (gE σ 59 ((((gE σ 58 ((((gE σ 56 (((xs (n + 1))).toNatClampNeg)) + (xs (n + 2)))).toNatClampNeg)) + (xs (n + 3)))).toNatClampNeg))]) (nI_add n 2)) ?_
  refine ev_sg (p' := 595) rfl rfl hs (vp_in_nI (by omega) (by omega)) rfl ?_
  refine ev_st (st' := [.int (xs (n + 2)), .int (xs (n + 1)), .ref 66, .int (gE σ 59 ((((gE σ 58 ((((gE σ 56 (((xs (n + 1))).toNatClampNeg)) + (xs (n + 2)))).toNatClampNeg)) + (xs (n + 3)))).toNatClampNeg))]) (congrArg (fun z => Value.int (xs z) :: [.int (xs (n + 1)), .ref 66, .int (gE σ 59 ((((gE σ 58 ((((gE σ 56 (((xs (n + 1))).toNatClampNeg)) + (xs (n + 2)))).toNatClampNeg)) + (xs (n + 3)))).toNatClampNeg))]) (nI_clamp (n := n + 2) (by omega))) ?_
  refine ev_x (i := .aload_n 0) (len := 1) (p' := 596) (s' := [.ref 0, .int (xs (n + 2)), .int (xs (n + 1)), .ref 66, .int (gE σ 59 ((((gE σ 58 ((((gE σ 56 (((xs (n + 1))).toNatClampNeg)) + (xs (n + 2)))).toNatClampNeg)) + (xs (n + 3)))).toNatClampNeg))]) rfl rfl rfl ?_
  refine ev_x (i := .iload 4) (len := 2) (p' := 598) (s' := [.int (nI n), .ref 0, .int (xs (n + 2)), .int (xs (n + 1)), .ref 66, .int (gE σ 59 ((((gE σ 58 ((((gE σ 56 (((xs (n + 1))).toNatClampNeg)) + (xs (n + 2)))).toNatClampNeg)) + (xs (n + 3)))).toNatClampNeg))]) rfl rfl rfl ?_
  refine ev_x (i := .iconst 3) (len := 1) (p' := 599) (s' := [.int 3, .int (nI n), .ref 0, .int (xs (n + 2)), .int (xs (n + 1)), .ref 66, .int (gE σ 59 ((((gE σ 58 ((((gE σ 56 (((xs (n + 1))).toNatClampNeg)) + (xs (n + 2)))).toNatClampNeg)) + (xs (n + 3)))).toNatClampNeg))]) rfl rfl rfl ?_
  refine ev_x (i := .iadd) (len := 1) (p' := 600) (s' := [.int ((nI n) + 3), .ref 0, .int (xs (n + 2)), .int (xs (n + 1)), .ref 66, .int (gE σ 59 ((((gE σ 58 ((((gE σ 56 (((xs (n + 1))).toNatClampNeg)) + (xs (n + 2)))).toNatClampNeg)) + (xs (n + 3)))).toNatClampNeg))]) rfl rfl rfl ?_
  refine ev_st (st' := [.int (nI (n + 3)), .ref 0, .int (xs (n + 2)), .int (xs (n + 1)), .ref 66, .int (gE σ 59 ((((gE σ 58 ((((gE σ 56 (((xs (n + 1))).toNatClampNeg)) + (xs (n + 2)))).toNatClampNeg)) + (xs (n + 3)))).toNatClampNeg))]) (congrArg (fun z => Value.int z :: [.ref 0, .int (xs (n + 2)), .int (xs (n + 1)), .ref 66, .int (gE σ 59 ((((gE σ 58 ((((gE σ 56 (((xs (n + 1))).toNatClampNeg)) + (xs (n + 2)))).toNatClampNeg)) + (xs (n + 3)))).toNatClampNeg))]) (nI_add n 3)) ?_
  refine ev_sg (p' := 601) rfl rfl hs (vp_in_nI (by omega) (by omega)) rfl ?_
  refine ev_st (st' := [.int (xs (n + 3)), .int (xs (n + 2)), .int (xs (n + 1)), .ref 66, .int (gE σ 59 ((((gE σ 58 ((((gE σ 56 (((xs (n + 1))).toNatClampNeg)) + (xs (n + 2)))).toNatClampNeg)) + (xs (n + 3)))).toNatClampNeg))]) (congrArg (fun z => Value.int (xs z) :: [.int (xs (n + 2)), .int (xs (n + 1)), .ref 66, .int (gE σ 59 ((((gE σ 58 ((((gE σ 56 (((xs (n + 1))).toNatClampNeg)) + (xs (n + 2)))).toNatClampNeg)) + (xs (n + 3)))).toNatClampNeg))]) (nI_clamp (n := n + 3) (by omega))) ?_
  refine ev_x (i := .aload_n 0) (len := 1) (p' := 602) (s' := [.ref 0, .int (xs (n + 3)), .int (xs (n + 2)), .int (xs (n + 1)), .ref 66, .int (gE σ 59 ((((gE σ 58 ((((gE σ 56 (((xs (n + 1))).toNatClampNeg)) + (xs (n + 2)))).toNatClampNeg)) + (xs (n + 3)))).toNatClampNeg))]) rfl rfl rfl ?_
  refine ev_x (i := .iload 4) (len := 2) (p' := 604) (s' := [.int (nI n), .ref 0, .int (xs (n + 3)), .int (xs (n + 2)), .int (xs (n + 1)), .ref 66, .int (gE σ 59 ((((gE σ 58 ((((gE σ 56 (((xs (n + 1))).toNatClampNeg)) + (xs (n + 2)))).toNatClampNeg)) + (xs (n + 3)))).toNatClampNeg))]) rfl rfl rfl ?_
  refine ev_x (i := .iconst 4) (len := 1) (p' := 605) (s' := [.int 4, .int (nI n), .ref 0, .int (xs (n + 3)), .int (xs (n + 2)), .int (xs (n + 1)), .ref 66, .int (gE σ 59 ((((gE σ 58 ((((gE σ 56 (((xs (n + 1))).toNatClampNeg)) + (xs (n + 2)))).toNatClampNeg)) + (xs (n + 3)))).toNatClampNeg))]) rfl rfl rfl ?_
  refine ev_x (i := .iadd) (len := 1) (p' := 606) (s' := [.int ((nI n) + 4), .ref 0, .int (xs (n + 3)), .int (xs (n + 2)), .int (xs (n + 1)), .ref 66, .int (gE σ 59 ((((gE σ 58 ((((gE σ 56 (((xs (n + 1))).toNatClampNeg)) + (xs (n + 2)))).toNatClampNeg)) + (xs (n + 3)))).toNatClampNeg))]) rfl rfl rfl ?_
  refine ev_st (st' := [.int (nI (n + 4)), .ref 0, .int (xs (n + 3)), .int (xs (n + 2)), .int (xs (n + 1)), .ref 66, .int (gE σ 59 ((((gE σ 58 ((((gE σ 56 (((xs (n + 1))).toNatClampNeg)) + (xs (n + 2)))).toNatClampNeg)) + (xs (n + 3)))).toNatClampNeg))]) (congrArg (fun z => Value.int z :: [.ref 0, .int (xs (n + 3)), .int (xs (n + 2)), .int (xs (n + 1)), .ref 66, .int (gE σ 59 ((((gE σ 58 ((((gE σ 56 (((xs (n + 1))).toNatClampNeg)) + (xs (n + 2)))).toNatClampNeg)) + (xs (n + 3)))).toNatClampNeg))]) (nI_add n 4)) ?_
  refine ev_sg (p' := 607) rfl rfl hs (vp_in_nI (by omega) (by omega)) rfl ?_
  refine ev_st (st' := [.int (xs (n + 4)), .int (xs (n + 3)), .int (xs (n + 2)), .int (xs (n + 1)), .ref 66, .int (gE σ 59 ((((gE σ 58 ((((gE σ 56 (((xs (n + 1))).toNatClampNeg)) + (xs (n + 2)))).toNatClampNeg)) + (xs (n + 3)))).toNatClampNeg))]) (congrArg (fun z => Value.int (xs z) :: [.int (xs (n + 3)), .int (xs (n + 2)), .int (xs (n + 1)), .ref 66, .int (gE σ 59 ((((gE σ 58 ((((gE σ 56 (((xs (n + 1))).toNatClampNeg)) + (xs (n + 2)))).toNatClampNeg)) + (xs (n + 3)))).toNatClampNeg))]) (nI_clamp (n := n + 4) (by omega))) ?_
  refine ev_cv (d := d + 4) (As := [.int (xs (n + 1)), .int (xs (n + 2)), .int (xs (n + 3)), .int (xs (n + 4))]) (a := 66) (p' := 610) rfl rfl rfl ly_66 rfl rfl rfl rfl rfl rfl rfl (lz_202 (d := d + 1) (c_1 := c_1) (c_2 := c_15) (c_3 := c_3) (c_4 := c_16) (c_5 := c_17) (c_6 := c_8) (c_7 := c_18) (c_8 := c_19) (c_9 := c_20) (c_10 := c_21) (c_11 := c_22) (c_12 := c_23) (c_13 := c_24) (c_14 := c_25)) ?_
  refine ev_st (st' := [.int (gE σ 181 ((((gE σ 178 ((((gE σ 173 (((xs (n + 1))).toNatClampNeg)) + (xs (n + 2)))).toNatClampNeg)) + (xs (n + 3)))).toNatClampNeg)), .int (gE σ 59 ((((gE σ 58 ((((gE σ 56 (((xs (n + 1))).toNatClampNeg)) + (xs (n + 2)))).toNatClampNeg)) + (xs (n + 3)))).toNatClampNeg))]) rfl ?_
  refine ev_b2 (t := 615) (p' := 615) rfl rfl rfl (if_pos c_26) ?_
  exact k
set_option maxHeartbeats 4000000 in
set_option maxRecDepth 100000 in
/-- GameTextLaw.law([I)Z -/
theorem lw_131_a1 {d : Nat} {σ : st_S} {x_b x_k : Int32} {q : vz_O × vz_H} {n L : Nat} {xs : Nat → Int32} (hs : gF σ 0 = .inl (0, L, .inl xs)) (hn : n + 6 ≤ L) (hL : L ≤ 3072) (c_1 : ¬ ((xs (n + 1)) < 0)) (c_2 : ¬ ((σ.1 52 10) ≤ (xs (n + 1)))) (c_3 : ¬ ((xs (n + 2)) < 0)) (c_4 : vp_in ((xs (n + 1)) + 1) (gN σ 56)) (c_5 : vp_in (xs (n + 1)) (gN σ 56)) (c_6 : (xs (n + 2)) < ((gE σ 56 ((((xs (n + 1)) + 1)).toNatClampNeg)) - (gE σ 56 (((xs (n + 1))).toNatClampNeg)))) (c_7 : ¬ (((gE σ 56 (((xs (n + 1))).toNatClampNeg)) + (xs (n + 2))) < 0)) (c_8 : ¬ ((xs (n + 3)) < 0)) (c_9 : vp_in (((gE σ 56 (((xs (n + 1))).toNatClampNeg)) + (xs (n + 2))) + 1) (gN σ 58)) (c_10 : vp_in ((gE σ 56 (((xs (n + 1))).toNatClampNeg)) + (xs (n + 2))) (gN σ 58)) (c_11 : (xs (n + 3)) < ((gE σ 58 (((((gE σ 56 (((xs (n + 1))).toNatClampNeg)) + (xs (n + 2))) + 1)).toNatClampNeg)) - (gE σ 58 ((((gE σ 56 (((xs (n + 1))).toNatClampNeg)) + (xs (n + 2)))).toNatClampNeg)))) (c_12 : 0 ≤ ((gE σ 58 ((((gE σ 56 (((xs (n + 1))).toNatClampNeg)) + (xs (n + 2)))).toNatClampNeg)) + (xs (n + 3)))) (c_13 : (xs (n + 4)) = 1) (c_14 : vp_in ((gE σ 58 ((((gE σ 56 (((xs (n + 1))).toNatClampNeg)) + (xs (n + 2)))).toNatClampNeg)) + (xs (n + 3))) (gN σ 60)) (c_15 : ¬ ((σ.1 66 29) ≤ (xs (n + 1)))) (c_16 : vp_in (xs (n + 1)) (gN σ 174)) (c_17 : ¬ ((gE σ 174 (((xs (n + 1))).toNatClampNeg)) ≤ (xs (n + 2)))) (c_18 : vp_in (xs (n + 1)) (gN σ 173)) (c_19 : vp_in ((gE σ 173 (((xs (n + 1))).toNatClampNeg)) + (xs (n + 2))) (gN σ 180)) (c_20 : ¬ ((gE σ 180 ((((gE σ 173 (((xs (n + 1))).toNatClampNeg)) + (xs (n + 2)))).toNatClampNeg)) ≤ (xs (n + 3)))) (c_21 : ¬ ((xs (n + 4)) < 0)) (c_22 : (xs (n + 4)) ≤ 2) (c_23 : vp_in ((gE σ 173 (((xs (n + 1))).toNatClampNeg)) + (xs (n + 2))) (gN σ 178)) (c_24 : ¬ (xs (n + 4)) = 0) (c_25 : ¬ (¬ (xs (n + 4)) = 1)) (c_26 : vp_in ((gE σ 178 ((((gE σ 173 (((xs (n + 1))).toNatClampNeg)) + (xs (n + 2)))).toNatClampNeg)) + (xs (n + 3))) (gN σ 182)) (c_27 : (gE σ 60 ((((gE σ 58 ((((gE σ 56 (((xs (n + 1))).toNatClampNeg)) + (xs (n + 2)))).toNatClampNeg)) + (xs (n + 3)))).toNatClampNeg)) = ((gL σ 182 ((((gE σ 178 ((((gE σ 173 (((xs (n + 1))).toNatClampNeg)) + (xs (n + 2)))).toNatClampNeg)) + (xs (n + 3)))).toNatClampNeg)) : Int64).toInt32) (k : vz_ev P0 (d + 5) 0 615 [(4, .int (nI n)), (6, .int x_b), (5, .int x_k), (3, .ref 187), (2, .ref 66), (1, .ref 1), (0, .ref 0)] [] (hp (st_i (σ) 66 0 0)) q) : vz_ev P0 (d + 5) 0 554 [(4, .int (nI n)), (6, .int x_b), (5, .int x_k), (3, .ref 187), (2, .ref 66), (1, .ref 1), (0, .ref 0)] [] (hp σ) q := by
  refine ev_x (i := .aload_n 1) (len := 1) (p' := 555) (s' := [.ref 1]) rfl rfl rfl ?_
  refine ev_x (i := .aload_n 0) (len := 1) (p' := 556) (s' := [.ref 0, .ref 1]) rfl rfl rfl ?_
  refine ev_x (i := .iload 4) (len := 2) (p' := 558) (s' := [.int (nI n), .ref 0, .ref 1]) rfl rfl rfl ?_
  refine ev_x (i := .iconst 1) (len := 1) (p' := 559) (s' := [.int 1, .int (nI n), .ref 0, .ref 1]) rfl rfl rfl ?_
  refine ev_x (i := .iadd) (len := 1) (p' := 560) (s' := [.int ((nI n) + 1), .ref 0, .ref 1]) rfl rfl rfl ?_
  refine ev_st (st' := [.int (nI (n + 1)), .ref 0, .ref 1]) (congrArg (fun z => Value.int z :: [.ref 0, .ref 1]) (nI_add n 1)) ?_
  refine ev_sg (p' := 561) rfl rfl hs (vp_in_nI (by omega) (by omega)) rfl ?_
  refine ev_st (st' := [.int (xs (n + 1)), .ref 1]) (congrArg (fun z => Value.int (xs z) :: [.ref 1]) (nI_clamp (n := n + 1) (by omega))) ?_
  refine ev_x (i := .aload_n 0) (len := 1) (p' := 562) (s' := [.ref 0, .int (xs (n + 1)), .ref 1]) rfl rfl rfl ?_
  refine ev_x (i := .iload 4) (len := 2) (p' := 564) (s' := [.int (nI n), .ref 0, .int (xs (n + 1)), .ref 1]) rfl rfl rfl ?_
  refine ev_x (i := .iconst 2) (len := 1) (p' := 565) (s' := [.int 2, .int (nI n), .ref 0, .int (xs (n + 1)), .ref 1]) rfl rfl rfl ?_
  refine ev_x (i := .iadd) (len := 1) (p' := 566) (s' := [.int ((nI n) + 2), .ref 0, .int (xs (n + 1)), .ref 1]) rfl rfl rfl ?_
  refine ev_st (st' := [.int (nI (n + 2)), .ref 0, .int (xs (n + 1)), .ref 1]) (congrArg (fun z => Value.int z :: [.ref 0, .int (xs (n + 1)), .ref 1]) (nI_add n 2)) ?_
  refine ev_sg (p' := 567) rfl rfl hs (vp_in_nI (by omega) (by omega)) rfl ?_
  refine ev_st (st' := [.int (xs (n + 2)), .int (xs (n + 1)), .ref 1]) (congrArg (fun z => Value.int (xs z) :: [.int (xs (n + 1)), .ref 1]) (nI_clamp (n := n + 2) (by omega))) ?_
  refine ev_x (i := .aload_n 0) (len := 1) (p' := 568) (s' := [.ref 0, .int (xs (n + 2)), .int (xs (n + 1)), .ref 1]) rfl rfl rfl ?_
  refine ev_x (i := .iload 4) (len := 2) (p' := 570) (s' := [.int (nI n), .ref 0, .int (xs (n + 2)), .int (xs (n + 1)), .ref 1]) rfl rfl rfl ?_
  refine ev_x (i := .iconst 3) (len := 1) (p' := 571) (s' := [.int 3, .int (nI n), .ref 0, .int (xs (n + 2)), .int (xs (n + 1)), .ref 1]) rfl rfl rfl ?_
  refine ev_x (i := .iadd) (len := 1) (p' := 572) (s' := [.int ((nI n) + 3), .ref 0, .int (xs (n + 2)), .int (xs (n + 1)), .ref 1]) rfl rfl rfl ?_
  refine ev_st (st' := [.int (nI (n + 3)), .ref 0, .int (xs (n + 2)), .int (xs (n + 1)), .ref 1]) (congrArg (fun z => Value.int z :: [.ref 0, .int (xs (n + 2)), .int (xs (n + 1)), .ref 1]) (nI_add n 3)) ?_
  refine ev_sg (p' := 573) rfl rfl hs (vp_in_nI (by omega) (by omega)) rfl ?_
  refine ev_st (st' := [.int (xs (n + 3)), .int (xs (n + 2)), .int (xs (n + 1)), .ref 1]) (congrArg (fun z => Value.int (xs z) :: [.int (xs (n + 2)), .int (xs (n + 1)), .ref 1]) (nI_clamp (n := n + 3) (by omega))) ?_
  refine ev_x (i := .aload_n 0) (len := 1) (p' := 574) (s' := [.ref 0, .int (xs (n + 3)), .int (xs (n + 2)), .int (xs (n + 1)), .ref 1]) rfl rfl rfl ?_
  refine ev_x (i := .iload 4) (len := 2) (p' := 576) (s' := [.int (nI n), .ref 0, .int (xs (n + 3)), .int (xs (n + 2)), .int (xs (n + 1)), .ref 1]) rfl rfl rfl ?_
  refine ev_x (i := .iconst 4) (len := 1) (p' := 577) (s' := [.int 4, .int (nI n), .ref 0, .int (xs (n + 3)), .int (xs (n + 2)), .int (xs (n + 1)), .ref 1]) rfl rfl rfl ?_
  refine ev_x (i := .iadd) (len := 1) (p' := 578) (s' := [.int ((nI n) + 4), .ref 0, .int (xs (n + 3)), .int (xs (n + 2)), .int (xs (n + 1)), .ref 1]) rfl rfl rfl ?_
  refine ev_st (st' := [.int (nI (n + 4)), .ref 0, .int (xs (n + 3)), .int (xs (n + 2)), .int (xs (n + 1)), .ref 1]) (congrArg (fun z => Value.int z :: [.ref 0, .int (xs (n + 3)), .int (xs (n + 2)), .int (xs (n + 1)), .ref 1]) (nI_add n 4)) ?_
  refine ev_sg (p' := 579) rfl rfl hs (vp_in_nI (by omega) (by omega)) rfl ?_
  refine ev_st (st' := [.int (xs (n + 4)), .int (xs (n + 3)), .int (xs (n + 2)), .int (xs (n + 1)), .ref 1]) (congrArg (fun z => Value.int (xs z) :: [.int (xs (n + 3)), .int (xs (n + 2)), .int (xs (n + 1)), .ref 1]) (nI_clamp (n := n + 4) (by omega))) ?_
  refine ev_cv (d := d + 4) (As := [.int (xs (n + 1)), .int (xs (n + 2)), .int (xs (n + 3)), .int (xs (n + 4))]) (a := 1) (p' := 582) rfl rfl rfl ly_1 rfl rfl rfl rfl rfl rfl rfl (lz_207 (d := d + 0) (c_1 := c_1) (c_2 := c_2) (c_3 := c_3) (c_4 := c_4) (c_5 := c_5) (c_6 := c_6) (c_7 := c_7) (c_8 := c_8) (c_9 := c_9) (c_10 := c_10) (c_11 := c_11) (c_12 := c_12) (c_13 := c_13) (c_14 := c_14)) ?_
  refine ev_st (st' := [.int (gE σ 60 ((((gE σ 58 ((((gE σ 56 (((xs (n + 1))).toNatClampNeg)) + (xs (n + 2)))).toNatClampNeg)) + (xs (n + 3)))).toNatClampNeg))]) rfl ?_
  refine ev_x (i := .aload_n 2) (len := 1) (p' := 583) (s' := [.ref 66, .int (gE σ 60 ((((gE σ 58 ((((gE σ 56 (((xs (n + 1))).toNatClampNeg)) + (xs (n + 2)))).toNatClampNeg)) + (xs (n + 3)))).toNatClampNeg))]) rfl rfl rfl ?_
  refine ev_x (i := .aload_n 0) (len := 1) (p' := 584) (s' := [.ref 0, .ref 66, .int (gE σ 60 ((((gE σ 58 ((((gE σ 56 (((xs (n + 1))).toNatClampNeg)) + (xs (n + 2)))).toNatClampNeg)) + (xs (n + 3)))).toNatClampNeg))]) rfl rfl rfl ?_
  refine ev_x (i := .iload 4) (len := 2) (p' := 586) (s' := [.int (nI n), .ref 0, .ref 66, .int (gE σ 60 ((((gE σ 58 ((((gE σ 56 (((xs (n + 1))).toNatClampNeg)) + (xs (n + 2)))).toNatClampNeg)) + (xs (n + 3)))).toNatClampNeg))]) rfl rfl rfl ?_
  refine ev_x (i := .iconst 1) (len := 1) (p' := 587) (s' := [.int 1, .int (nI n), .ref 0, .ref 66, .int (gE σ 60 ((((gE σ 58 ((((gE σ 56 (((xs (n + 1))).toNatClampNeg)) + (xs (n + 2)))).toNatClampNeg)) + (xs (n + 3)))).toNatClampNeg))]) rfl rfl rfl ?_
  refine ev_x (i := .iadd) (len := 1) (p' := 588) (s' := [.int ((nI n) + 1), .ref 0, .ref 66, .int (gE σ 60 ((((gE σ 58 ((((gE σ 56 (((xs (n + 1))).toNatClampNeg)) + (xs (n + 2)))).toNatClampNeg)) + (xs (n + 3)))).toNatClampNeg))]) rfl rfl rfl ?_
  refine ev_st (st' := [.int (nI (n + 1)), .ref 0, .ref 66, .int (gE σ 60 ((((gE σ 58 ((((gE σ 56 (((xs (n + 1))).toNatClampNeg)) + (xs (n + 2)))).toNatClampNeg)) + (xs (n + 3)))).toNatClampNeg))]) (congrArg (fun z => Value.int z :: [.ref 0, .ref 66, .int (gE σ 60 ((((gE σ 58 ((((gE σ 56 (((xs (n + 1))).toNatClampNeg)) + (xs (n + 2)))).toNatClampNeg)) + (xs (n + 3)))).toNatClampNeg))]) (nI_add n 1)) ?_
  refine ev_sg (p' := 589) rfl rfl hs (vp_in_nI (by omega) (by omega)) rfl ?_
  refine ev_st (st' := [.int (xs (n + 1)), .ref 66, .int (gE σ 60 ((((gE σ 58 ((((gE σ 56 (((xs (n + 1))).toNatClampNeg)) + (xs (n + 2)))).toNatClampNeg)) + (xs (n + 3)))).toNatClampNeg))]) (congrArg (fun z => Value.int (xs z) :: [.ref 66, .int (gE σ 60 ((((gE σ 58 ((((gE σ 56 (((xs (n + 1))).toNatClampNeg)) + (xs (n + 2)))).toNatClampNeg)) + (xs (n + 3)))).toNatClampNeg))]) (nI_clamp (n := n + 1) (by omega))) ?_
  refine ev_x (i := .aload_n 0) (len := 1) (p' := 590) (s' := [.ref 0, .int (xs (n + 1)), .ref 66, .int (gE σ 60 ((((gE σ 58 ((((gE σ 56 (((xs (n + 1))).toNatClampNeg)) + (xs (n + 2)))).toNatClampNeg)) + (xs (n + 3)))).toNatClampNeg))]) rfl rfl rfl ?_
  refine ev_x (i := .iload 4) (len := 2) (p' := 592) (s' := [.int (nI n), .ref 0, .int (xs (n + 1)), .ref 66, .int (gE σ 60 ((((gE σ 58 ((((gE σ 56 (((xs (n + 1))).toNatClampNeg)) + (xs (n + 2)))).toNatClampNeg)) + (xs (n + 3)))).toNatClampNeg))]) rfl rfl rfl ?_
  refine ev_x (i := .iconst 2) (len := 1) (p' := 593) (s' := [.int 2, .int (nI n), .ref 0, .int (xs (n + 1)), .ref 66, .int (gE σ 60 ((((gE σ 58 ((((gE σ 56 (((xs (n + 1))).toNatClampNeg)) + (xs (n + 2)))).toNatClampNeg)) + (xs (n + 3)))).toNatClampNeg))]) rfl rfl rfl ?_
  refine ev_x (i := .iadd) (len := 1) (p' := 594) (s' := [.int ((nI n) + 2), .ref 0, .int (xs (n + 1)), .ref 66, .int (gE σ 60 ((((gE σ 58 ((((gE σ 56 (((xs (n + 1))).toNatClampNeg)) + (xs (n + 2)))).toNatClampNeg)) + (xs (n + 3)))).toNatClampNeg))]) rfl rfl rfl ?_
  refine ev_st (st' := [.int (nI (n + 2)), .ref 0, .int (xs (n + 1)), .ref 66, .int (gE σ 60 ((((gE σ 58 ((((gE σ 56 (((xs (n + 1))).toNatClampNeg)) + (xs (n + 2)))).toNatClampNeg)) + (xs (n + 3)))).toNatClampNeg))]) (congrArg (fun z => Value.int z :: [.ref 0, .int (xs (n + 1)), .ref 66, .int (gE σ 60 ((((gE σ 58 ((((gE σ 56 (((xs (n + 1))).toNatClampNeg)) + (xs (n + 2)))).toNatClampNeg)) + (xs (n + 3)))).toNatClampNeg))]) (nI_add n 2)) ?_
  refine ev_sg (p' := 595) rfl rfl hs (vp_in_nI (by omega) (by omega)) rfl ?_
  refine ev_st (st' := [.int (xs (n + 2)), .int (xs (n + 1)), .ref 66, .int (gE σ 60 ((((gE σ 58 ((((gE σ 56 (((xs (n + 1))).toNatClampNeg)) + (xs (n + 2)))).toNatClampNeg)) + (xs (n + 3)))).toNatClampNeg))]) (congrArg (fun z => Value.int (xs z) :: [.int (xs (n + 1)), .ref 66, .int (gE σ 60 ((((gE σ 58 ((((gE σ 56 (((xs (n + 1))).toNatClampNeg)) + (xs (n + 2)))).toNatClampNeg)) + (xs (n + 3)))).toNatClampNeg))]) (nI_clamp (n := n + 2) (by omega))) ?_
  refine ev_x (i := .aload_n 0) (len := 1) (p' := 596) (s' := [.ref 0, .int (xs (n + 2)), .int (xs (n + 1)), .ref 66, .int (gE σ 60 ((((gE σ 58 ((((gE σ 56 (((xs (n + 1))).toNatClampNeg)) + (xs (n + 2)))).toNatClampNeg)) + (xs (n + 3)))).toNatClampNeg))]) rfl rfl rfl ?_
  refine ev_x (i := .iload 4) (len := 2) (p' := 598) (s' := [.int (nI n), .ref 0, .int (xs (n + 2)), .int (xs (n + 1)), .ref 66, .int (gE σ 60 ((((gE σ 58 ((((gE σ 56 (((xs (n + 1))).toNatClampNeg)) + (xs (n + 2)))).toNatClampNeg)) + (xs (n + 3)))).toNatClampNeg))]) rfl rfl rfl ?_
  refine ev_x (i := .iconst 3) (len := 1) (p' := 599) (s' := [.int 3, .int (nI n), .ref 0, .int (xs (n + 2)), .int (xs (n + 1)), .ref 66, .int (gE σ 60 ((((gE σ 58 ((((gE σ 56 (((xs (n + 1))).toNatClampNeg)) + (xs (n + 2)))).toNatClampNeg)) + (xs (n + 3)))).toNatClampNeg))]) rfl rfl rfl ?_
  refine ev_x (i := .iadd) (len := 1) (p' := 600) (s' := [.int ((nI n) + 3), .ref 0, .int (xs (n + 2)), .int (xs (n + 1)), .ref 66, .int (gE σ 60 ((((gE σ 58 ((((gE σ 56 (((xs (n + 1))).toNatClampNeg)) + (xs (n + 2)))).toNatClampNeg)) + (xs (n + 3)))).toNatClampNeg))]) rfl rfl rfl ?_
  refine ev_st (st' := [.int (nI (n + 3)), .ref 0, .int (xs (n + 2)), .int (xs (n + 1)), .ref 66, .int (gE σ 60 ((((gE σ 58 ((((gE σ 56 (((xs (n + 1))).toNatClampNeg)) + (xs (n + 2)))).toNatClampNeg)) + (xs (n + 3)))).toNatClampNeg))]) (congrArg (fun z => Value.int z :: [.ref 0, .int (xs (n + 2)), .int (xs (n + 1)), .ref 66, .int (gE σ 60 ((((gE σ 58 ((((gE σ 56 (((xs (n + 1))).toNatClampNeg)) + (xs (n + 2)))).toNatClampNeg)) + (xs (n + 3)))).toNatClampNeg))]) (nI_add n 3)) ?_
  refine ev_sg (p' := 601) rfl rfl hs (vp_in_nI (by omega) (by omega)) rfl ?_
  refine ev_st (st' := [.int (xs (n + 3)), .int (xs (n + 2)), .int (xs (n + 1)), .ref 66, .int (gE σ 60 ((((gE σ 58 ((((gE σ 56 (((xs (n + 1))).toNatClampNeg)) + (xs (n + 2)))).toNatClampNeg)) + (xs (n + 3)))).toNatClampNeg))]) (congrArg (fun z => Value.int (xs z) :: [.int (xs (n + 2)), .int (xs (n + 1)), .ref 66, .int (gE σ 60 ((((gE σ 58 ((((gE σ 56 (((xs (n + 1))).toNatClampNeg)) + (xs (n + 2)))).toNatClampNeg)) + (xs (n + 3)))).toNatClampNeg))]) (nI_clamp (n := n + 3) (by omega))) ?_
  refine ev_x (i := .aload_n 0) (len := 1) (p' := 602) (s' := [.ref 0, .int (xs (n + 3)), .int (xs (n + 2)), .int (xs (n + 1)), .ref 66, .int (gE σ 60 ((((gE σ 58 ((((gE σ 56 (((xs (n + 1))).toNatClampNeg)) + (xs (n + 2)))).toNatClampNeg)) + (xs (n + 3)))).toNatClampNeg))]) rfl rfl rfl ?_
  refine ev_x (i := .iload 4) (len := 2) (p' := 604) (s' := [.int (nI n), .ref 0, .int (xs (n + 3)), .int (xs (n + 2)), .int (xs (n + 1)), .ref 66, .int (gE σ 60 ((((gE σ 58 ((((gE σ 56 (((xs (n + 1))).toNatClampNeg)) + (xs (n + 2)))).toNatClampNeg)) + (xs (n + 3)))).toNatClampNeg))]) rfl rfl rfl ?_
  refine ev_x (i := .iconst 4) (len := 1) (p' := 605) (s' := [.int 4, .int (nI n), .ref 0, .int (xs (n + 3)), .int (xs (n + 2)), .int (xs (n + 1)), .ref 66, .int (gE σ 60 ((((gE σ 58 ((((gE σ 56 (((xs (n + 1))).toNatClampNeg)) + (xs (n + 2)))).toNatClampNeg)) + (xs (n + 3)))).toNatClampNeg))]) rfl rfl rfl ?_
  refine ev_x (i := .iadd) (len := 1) (p' := 606) (s' := [.int ((nI n) + 4), .ref 0, .int (xs (n + 3)), .int (xs (n + 2)), .int (xs (n + 1)), .ref 66, .int (gE σ 60 ((((gE σ 58 ((((gE σ 56 (((xs (n + 1))).toNatClampNeg)) + (xs (n + 2)))).toNatClampNeg)) + (xs (n + 3)))).toNatClampNeg))]) rfl rfl rfl ?_
  refine ev_st (st' := [.int (nI (n + 4)), .ref 0, .int (xs (n + 3)), .int (xs (n + 2)), .int (xs (n + 1)), .ref 66, .int (gE σ 60 ((((gE σ 58 ((((gE σ 56 (((xs (n + 1))).toNatClampNeg)) + (xs (n + 2)))).toNatClampNeg)) + (xs (n + 3)))).toNatClampNeg))]) (congrArg (fun z => Value.int z :: [.ref 0, .int (xs (n + 3)), .int (xs (n + 2)), .int (xs (n + 1)), .ref 66, .int (gE σ 60 ((((gE σ 58 ((((gE σ 56 (((xs (n + 1))).toNatClampNeg)) + (xs (n + 2)))).toNatClampNeg)) + (xs (n + 3)))).toNatClampNeg))]) (nI_add n 4)) ?_
  refine ev_sg (p' := 607) rfl rfl hs (vp_in_nI (by omega) (by omega)) rfl ?_
  refine ev_st (st' := [.int (xs (n + 4)), .int (xs (n + 3)), .int (xs (n + 2)), .int (xs (n + 1)), .ref 66, .int (gE σ 60 ((((gE σ 58 ((((gE σ 56 (((xs (n + 1))).toNatClampNeg)) + (xs (n + 2)))).toNatClampNeg)) + (xs (n + 3)))).toNatClampNeg))]) (congrArg (fun z => Value.int (xs z) :: [.int (xs (n + 3)), .int (xs (n + 2)), .int (xs (n + 1)), .ref 66, .int (gE σ 60 ((((gE σ 58 ((((gE σ 56 (((xs (n + 1))).toNatClampNeg)) + (xs (n + 2)))).toNatClampNeg)) + (xs (n + 3)))).toNatClampNeg))]) (nI_clamp (n := n + 4) (by omega))) ?_
  refine ev_cv (d := d + 4) (As := [.int (xs (n + 1)), .int (xs (n + 2)), .int (xs (n + 3)), .int (xs (n + 4))]) (a := 66) (p' := 610) rfl rfl rfl ly_66 rfl rfl rfl rfl rfl rfl rfl (lz_212 (d := d + 1) (c_1 := c_1) (c_2 := c_15) (c_3 := c_3) (c_4 := c_16) (c_5 := c_17) (c_6 := c_8) (c_7 := c_18) (c_8 := c_19) (c_9 := c_20) (c_10 := c_21) (c_11 := c_22) (c_12 := c_23) (c_13 := c_24) (c_14 := c_25) (c_15 := c_26)) ?_
  refine ev_st (st' := [.int ((gL σ 182 ((((gE σ 178 ((((gE σ 173 (((xs (n + 1))).toNatClampNeg)) + (xs (n + 2)))).toNatClampNeg)) + (xs (n + 3)))).toNatClampNeg)) : Int64).toInt32, .int (gE σ 60 ((((gE σ 58 ((((gE σ 56 (((xs (n + 1))).toNatClampNeg)) + (xs (n + 2)))).toNatClampNeg)) + (xs (n + 3)))).toNatClampNeg))]) rfl ?_
  refine ev_b2 (t := 615) (p' := 615) rfl rfl rfl (if_pos c_27) ?_
  exact k
set_option maxHeartbeats 4000000 in
set_option maxRecDepth 100000 in
/-- GameTextLaw.law([I)Z -/
theorem lw_132_a1 {d : Nat} {σ : st_S} {x_b x_k : Int32} {q : vz_O × vz_H} {n L : Nat} {xs : Nat → Int32} (hs : gF σ 0 = .inl (0, L, .inl xs)) (hn : n + 6 ≤ L) (hL : L ≤ 3072) (c_1 : ¬ ((xs (n + 1)) < 0)) (c_2 : ¬ ((σ.1 52 10) ≤ (xs (n + 1)))) (c_3 : ¬ ((xs (n + 2)) < 0)) (c_4 : vp_in ((xs (n + 1)) + 1) (gN σ 56)) (c_5 : vp_in (xs (n + 1)) (gN σ 56)) (c_6 : (xs (n + 2)) < ((gE σ 56 ((((xs (n + 1)) + 1)).toNatClampNeg)) - (gE σ 56 (((xs (n + 1))).toNatClampNeg)))) (c_7 : ¬ (((gE σ 56 (((xs (n + 1))).toNatClampNeg)) + (xs (n + 2))) < 0)) (c_8 : ¬ ((xs (n + 3)) < 0)) (c_9 : vp_in (((gE σ 56 (((xs (n + 1))).toNatClampNeg)) + (xs (n + 2))) + 1) (gN σ 58)) (c_10 : vp_in ((gE σ 56 (((xs (n + 1))).toNatClampNeg)) + (xs (n + 2))) (gN σ 58)) (c_11 : (xs (n + 3)) < ((gE σ 58 (((((gE σ 56 (((xs (n + 1))).toNatClampNeg)) + (xs (n + 2))) + 1)).toNatClampNeg)) - (gE σ 58 ((((gE σ 56 (((xs (n + 1))).toNatClampNeg)) + (xs (n + 2)))).toNatClampNeg)))) (c_12 : 0 ≤ ((gE σ 58 ((((gE σ 56 (((xs (n + 1))).toNatClampNeg)) + (xs (n + 2)))).toNatClampNeg)) + (xs (n + 3)))) (c_13 : (xs (n + 4)) = 2) (c_14 : vp_in ((gE σ 58 ((((gE σ 56 (((xs (n + 1))).toNatClampNeg)) + (xs (n + 2)))).toNatClampNeg)) + (xs (n + 3))) (gN σ 61)) (c_15 : ¬ ((σ.1 66 29) ≤ (xs (n + 1)))) (c_16 : vp_in (xs (n + 1)) (gN σ 174)) (c_17 : ¬ ((gE σ 174 (((xs (n + 1))).toNatClampNeg)) ≤ (xs (n + 2)))) (c_18 : vp_in (xs (n + 1)) (gN σ 173)) (c_19 : vp_in ((gE σ 173 (((xs (n + 1))).toNatClampNeg)) + (xs (n + 2))) (gN σ 180)) (c_20 : ¬ ((gE σ 180 ((((gE σ 173 (((xs (n + 1))).toNatClampNeg)) + (xs (n + 2)))).toNatClampNeg)) ≤ (xs (n + 3)))) (c_21 : ¬ ((xs (n + 4)) < 0)) (c_22 : (xs (n + 4)) ≤ 2) (c_23 : vp_in ((gE σ 173 (((xs (n + 1))).toNatClampNeg)) + (xs (n + 2))) (gN σ 178)) (c_24 : ¬ (xs (n + 4)) = 0) (c_25 : ¬ (xs (n + 4)) = 1) (c_26 : vp_in ((gE σ 178 ((((gE σ 173 (((xs (n + 1))).toNatClampNeg)) + (xs (n + 2)))).toNatClampNeg)) + (xs (n + 3))) (gN σ 183)) (c_27 : (gE σ 61 ((((gE σ 58 ((((gE σ 56 (((xs (n + 1))).toNatClampNeg)) + (xs (n + 2)))).toNatClampNeg)) + (xs (n + 3)))).toNatClampNeg)) = ((gL σ 183 ((((gE σ 178 ((((gE σ 173 (((xs (n + 1))).toNatClampNeg)) + (xs (n + 2)))).toNatClampNeg)) + (xs (n + 3)))).toNatClampNeg)) : Int64).toInt32) (k : vz_ev P0 (d + 5) 0 615 [(4, .int (nI n)), (6, .int x_b), (5, .int x_k), (3, .ref 187), (2, .ref 66), (1, .ref 1), (0, .ref 0)] [] (hp (st_i (σ) 66 0 0)) q) : vz_ev P0 (d + 5) 0 554 [(4, .int (nI n)), (6, .int x_b), (5, .int x_k), (3, .ref 187), (2, .ref 66), (1, .ref 1), (0, .ref 0)] [] (hp σ) q := by
  refine ev_x (i := .aload_n 1) (len := 1) (p' := 555) (s' := [.ref 1]) rfl rfl rfl ?_
  refine ev_x (i := .aload_n 0) (len := 1) (p' := 556) (s' := [.ref 0, .ref 1]) rfl rfl rfl ?_
  refine ev_x (i := .iload 4) (len := 2) (p' := 558) (s' := [.int (nI n), .ref 0, .ref 1]) rfl rfl rfl ?_
  refine ev_x (i := .iconst 1) (len := 1) (p' := 559) (s' := [.int 1, .int (nI n), .ref 0, .ref 1]) rfl rfl rfl ?_
  refine ev_x (i := .iadd) (len := 1) (p' := 560) (s' := [.int ((nI n) + 1), .ref 0, .ref 1]) rfl rfl rfl ?_
  refine ev_st (st' := [.int (nI (n + 1)), .ref 0, .ref 1]) (congrArg (fun z => Value.int z :: [.ref 0, .ref 1]) (nI_add n 1)) ?_
  refine ev_sg (p' := 561) rfl rfl hs (vp_in_nI (by omega) (by omega)) rfl ?_
  refine ev_st (st' := [.int (xs (n + 1)), .ref 1]) (congrArg (fun z => Value.int (xs z) :: [.ref 1]) (nI_clamp (n := n + 1) (by omega))) ?_
  refine ev_x (i := .aload_n 0) (len := 1) (p' := 562) (s' := [.ref 0, .int (xs (n + 1)), .ref 1]) rfl rfl rfl ?_
  refine ev_x (i := .iload 4) (len := 2) (p' := 564) (s' := [.int (nI n), .ref 0, .int (xs (n + 1)), .ref 1]) rfl rfl rfl ?_
  refine ev_x (i := .iconst 2) (len := 1) (p' := 565) (s' := [.int 2, .int (nI n), .ref 0, .int (xs (n + 1)), .ref 1]) rfl rfl rfl ?_
  refine ev_x (i := .iadd) (len := 1) (p' := 566) (s' := [.int ((nI n) + 2), .ref 0, .int (xs (n + 1)), .ref 1]) rfl rfl rfl ?_
  refine ev_st (st' := [.int (nI (n + 2)), .ref 0, .int (xs (n + 1)), .ref 1]) (congrArg (fun z => Value.int z :: [.ref 0, .int (xs (n + 1)), .ref 1]) (nI_add n 2)) ?_
  refine ev_sg (p' := 567) rfl rfl hs (vp_in_nI (by omega) (by omega)) rfl ?_
  refine ev_st (st' := [.int (xs (n + 2)), .int (xs (n + 1)), .ref 1]) (congrArg (fun z => Value.int (xs z) :: [.int (xs (n + 1)), .ref 1]) (nI_clamp (n := n + 2) (by omega))) ?_
  refine ev_x (i := .aload_n 0) (len := 1) (p' := 568) (s' := [.ref 0, .int (xs (n + 2)), .int (xs (n + 1)), .ref 1]) rfl rfl rfl ?_
  refine ev_x (i := .iload 4) (len := 2) (p' := 570) (s' := [.int (nI n), .ref 0, .int (xs (n + 2)), .int (xs (n + 1)), .ref 1]) rfl rfl rfl ?_
  refine ev_x (i := .iconst 3) (len := 1) (p' := 571) (s' := [.int 3, .int (nI n), .ref 0, .int (xs (n + 2)), .int (xs (n + 1)), .ref 1]) rfl rfl rfl ?_
  refine ev_x (i := .iadd) (len := 1) (p' := 572) (s' := [.int ((nI n) + 3), .ref 0, .int (xs (n + 2)), .int (xs (n + 1)), .ref 1]) rfl rfl rfl ?_
  refine ev_st (st' := [.int (nI (n + 3)), .ref 0, .int (xs (n + 2)), .int (xs (n + 1)), .ref 1]) (congrArg (fun z => Value.int z :: [.ref 0, .int (xs (n + 2)), .int (xs (n + 1)), .ref 1]) (nI_add n 3)) ?_
  refine ev_sg (p' := 573) rfl rfl hs (vp_in_nI (by omega) (by omega)) rfl ?_
  refine ev_st (st' := [.int (xs (n + 3)), .int (xs (n + 2)), .int (xs (n + 1)), .ref 1]) (congrArg (fun z => Value.int (xs z) :: [.int (xs (n + 2)), .int (xs (n + 1)), .ref 1]) (nI_clamp (n := n + 3) (by omega))) ?_
  refine ev_x (i := .aload_n 0) (len := 1) (p' := 574) (s' := [.ref 0, .int (xs (n + 3)), .int (xs (n + 2)), .int (xs (n + 1)), .ref 1]) rfl rfl rfl ?_
  refine ev_x (i := .iload 4) (len := 2) (p' := 576) (s' := [.int (nI n), .ref 0, .int (xs (n + 3)), .int (xs (n + 2)), .int (xs (n + 1)), .ref 1]) rfl rfl rfl ?_
  refine ev_x (i := .iconst 4) (len := 1) (p' := 577) (s' := [.int 4, .int (nI n), .ref 0, .int (xs (n + 3)), .int (xs (n + 2)), .int (xs (n + 1)), .ref 1]) rfl rfl rfl ?_
  refine ev_x (i := .iadd) (len := 1) (p' := 578) (s' := [.int ((nI n) + 4), .ref 0, .int (xs (n + 3)), .int (xs (n + 2)), .int (xs (n + 1)), .ref 1]) rfl rfl rfl ?_
  refine ev_st (st' := [.int (nI (n + 4)), .ref 0, .int (xs (n + 3)), .int (xs (n + 2)), .int (xs (n + 1)), .ref 1]) (congrArg (fun z => Value.int z :: [.ref 0, .int (xs (n + 3)), .int (xs (n + 2)), .int (xs (n + 1)), .ref 1]) (nI_add n 4)) ?_
  refine ev_sg (p' := 579) rfl rfl hs (vp_in_nI (by omega) (by omega)) rfl ?_
  refine ev_st (st' := [.int (xs (n + 4)), .int (xs (n + 3)), .int (xs (n + 2)), .int (xs (n + 1)), .ref 1]) (congrArg (fun z => Value.int (xs z) :: [.int (xs (n + 3)), .int (xs (n + 2)), .int (xs (n + 1)), .ref 1]) (nI_clamp (n := n + 4) (by omega))) ?_
  refine ev_cv (d := d + 4) (As := [.int (xs (n + 1)), .int (xs (n + 2)), .int (xs (n + 3)), .int (xs (n + 4))]) (a := 1) (p' := 582) rfl rfl rfl ly_1 rfl rfl rfl rfl rfl rfl rfl (lz_217 (d := d + 0) (c_1 := c_1) (c_2 := c_2) (c_3 := c_3) (c_4 := c_4) (c_5 := c_5) (c_6 := c_6) (c_7 := c_7) (c_8 := c_8) (c_9 := c_9) (c_10 := c_10) (c_11 := c_11) (c_12 := c_12) (c_13 := c_13) (c_14 := c_14)) ?_
  refine ev_st (st' := [.int (gE σ 61 ((((gE σ 58 ((((gE σ 56 (((xs (n + 1))).toNatClampNeg)) + (xs (n + 2)))).toNatClampNeg)) + (xs (n + 3)))).toNatClampNeg))]) rfl ?_
  refine ev_x (i := .aload_n 2) (len := 1) (p' := 583) (s' := [.ref 66, .int (gE σ 61 ((((gE σ 58 ((((gE σ 56 (((xs (n + 1))).toNatClampNeg)) + (xs (n + 2)))).toNatClampNeg)) + (xs (n + 3)))).toNatClampNeg))]) rfl rfl rfl ?_
  refine ev_x (i := .aload_n 0) (len := 1) (p' := 584) (s' := [.ref 0, .ref 66, .int (gE σ 61 ((((gE σ 58 ((((gE σ 56 (((xs (n + 1))).toNatClampNeg)) + (xs (n + 2)))).toNatClampNeg)) + (xs (n + 3)))).toNatClampNeg))]) rfl rfl rfl ?_
  refine ev_x (i := .iload 4) (len := 2) (p' := 586) (s' := [.int (nI n), .ref 0, .ref 66, .int (gE σ 61 ((((gE σ 58 ((((gE σ 56 (((xs (n + 1))).toNatClampNeg)) + (xs (n + 2)))).toNatClampNeg)) + (xs (n + 3)))).toNatClampNeg))]) rfl rfl rfl ?_
  refine ev_x (i := .iconst 1) (len := 1) (p' := 587) (s' := [.int 1, .int (nI n), .ref 0, .ref 66, .int (gE σ 61 ((((gE σ 58 ((((gE σ 56 (((xs (n + 1))).toNatClampNeg)) + (xs (n + 2)))).toNatClampNeg)) + (xs (n + 3)))).toNatClampNeg))]) rfl rfl rfl ?_
  refine ev_x (i := .iadd) (len := 1) (p' := 588) (s' := [.int ((nI n) + 1), .ref 0, .ref 66, .int (gE σ 61 ((((gE σ 58 ((((gE σ 56 (((xs (n + 1))).toNatClampNeg)) + (xs (n + 2)))).toNatClampNeg)) + (xs (n + 3)))).toNatClampNeg))]) rfl rfl rfl ?_
  refine ev_st (st' := [.int (nI (n + 1)), .ref 0, .ref 66, .int (gE σ 61 ((((gE σ 58 ((((gE σ 56 (((xs (n + 1))).toNatClampNeg)) + (xs (n + 2)))).toNatClampNeg)) + (xs (n + 3)))).toNatClampNeg))]) (congrArg (fun z => Value.int z :: [.ref 0, .ref 66, .int (gE σ 61 ((((gE σ 58 ((((gE σ 56 (((xs (n + 1))).toNatClampNeg)) + (xs (n + 2)))).toNatClampNeg)) + (xs (n + 3)))).toNatClampNeg))]) (nI_add n 1)) ?_
  refine ev_sg (p' := 589) rfl rfl hs (vp_in_nI (by omega) (by omega)) rfl ?_
  refine ev_st (st' := [.int (xs (n + 1)), .ref 66, .int (gE σ 61 ((((gE σ 58 ((((gE σ 56 (((xs (n + 1))).toNatClampNeg)) + (xs (n + 2)))).toNatClampNeg)) + (xs (n + 3)))).toNatClampNeg))]) (congrArg (fun z => Value.int (xs z) :: [.ref 66, .int (gE σ 61 ((((gE σ 58 ((((gE σ 56 (((xs (n + 1))).toNatClampNeg)) + (xs (n + 2)))).toNatClampNeg)) + (xs (n + 3)))).toNatClampNeg))]) (nI_clamp (n := n + 1) (by omega))) ?_
  refine ev_x (i := .aload_n 0) (len := 1) (p' := 590) (s' := [.ref 0, .int (xs (n + 1)), .ref 66, .int (gE σ 61 ((((gE σ 58 ((((gE σ 56 (((xs (n + 1))).toNatClampNeg)) + (xs (n + 2)))).toNatClampNeg)) + (xs (n + 3)))).toNatClampNeg))]) rfl rfl rfl ?_
  refine ev_x (i := .iload 4) (len := 2) (p' := 592) (s' := [.int (nI n), .ref 0, .int (xs (n + 1)), .ref 66, .int (gE σ 61 ((((gE σ 58 ((((gE σ 56 (((xs (n + 1))).toNatClampNeg)) + (xs (n + 2)))).toNatClampNeg)) + (xs (n + 3)))).toNatClampNeg))]) rfl rfl rfl ?_
  refine ev_x (i := .iconst 2) (len := 1) (p' := 593) (s' := [.int 2, .int (nI n), .ref 0, .int (xs (n + 1)), .ref 66, .int (gE σ 61 ((((gE σ 58 ((((gE σ 56 (((xs (n + 1))).toNatClampNeg)) + (xs (n + 2)))).toNatClampNeg)) + (xs (n + 3)))).toNatClampNeg))]) rfl rfl rfl ?_
  refine ev_x (i := .iadd) (len := 1) (p' := 594) (s' := [.int ((nI n) + 2), .ref 0, .int (xs (n + 1)), .ref 66, .int (gE σ 61 ((((gE σ 58 ((((gE σ 56 (((xs (n + 1))).toNatClampNeg)) + (xs (n + 2)))).toNatClampNeg)) + (xs (n + 3)))).toNatClampNeg))]) rfl rfl rfl ?_
  refine ev_st (st' := [.int (nI (n + 2)), .ref 0, .int (xs (n + 1)), .ref 66, .int (gE σ 61 ((((gE σ 58 ((((gE σ 56 (((xs (n + 1))).toNatClampNeg)) + (xs (n + 2)))).toNatClampNeg)) + (xs (n + 3)))).toNatClampNeg))]) (congrArg (fun z => Value.int z :: [.ref 0, .int (xs (n + 1)), .ref 66, .int (gE σ 61 ((((gE σ 58 ((((gE σ 56 (((xs (n + 1))).toNatClampNeg)) + (xs (n + 2)))).toNatClampNeg)) + (xs (n + 3)))).toNatClampNeg))]) (nI_add n 2)) ?_
  refine ev_sg (p' := 595) rfl rfl hs (vp_in_nI (by omega) (by omega)) rfl ?_
  refine ev_st (st' := [.int (xs (n + 2)), .int (xs (n + 1)), .ref 66, .int (gE σ 61 ((((gE σ 58 ((((gE σ 56 (((xs (n + 1))).toNatClampNeg)) + (xs (n + 2)))).toNatClampNeg)) + (xs (n + 3)))).toNatClampNeg))]) (congrArg (fun z => Value.int (xs z) :: [.int (xs (n + 1)), .ref 66, .int (gE σ 61 ((((gE σ 58 ((((gE σ 56 (((xs (n + 1))).toNatClampNeg)) + (xs (n + 2)))).toNatClampNeg)) + (xs (n + 3)))).toNatClampNeg))]) (nI_clamp (n := n + 2) (by omega))) ?_
  refine ev_x (i := .aload_n 0) (len := 1) (p' := 596) (s' := [.ref 0, .int (xs (n + 2)), .int (xs (n + 1)), .ref 66, .int (gE σ 61 ((((gE σ 58 ((((gE σ 56 (((xs (n + 1))).toNatClampNeg)) + (xs (n + 2)))).toNatClampNeg)) + (xs (n + 3)))).toNatClampNeg))]) rfl rfl rfl ?_
  refine ev_x (i := .iload 4) (len := 2) (p' := 598) (s' := [.int (nI n), .ref 0, .int (xs (n + 2)), .int (xs (n + 1)), .ref 66, .int (gE σ 61 ((((gE σ 58 ((((gE σ 56 (((xs (n + 1))).toNatClampNeg)) + (xs (n + 2)))).toNatClampNeg)) + (xs (n + 3)))).toNatClampNeg))]) rfl rfl rfl ?_
  refine ev_x (i := .iconst 3) (len := 1) (p' := 599) (s' := [.int 3, .int (nI n), .ref 0, .int (xs (n + 2)), .int (xs (n + 1)), .ref 66, .int (gE σ 61 ((((gE σ 58 ((((gE σ 56 (((xs (n + 1))).toNatClampNeg)) + (xs (n + 2)))).toNatClampNeg)) + (xs (n + 3)))).toNatClampNeg))]) rfl rfl rfl ?_
  refine ev_x (i := .iadd) (len := 1) (p' := 600) (s' := [.int ((nI n) + 3), .ref 0, .int (xs (n + 2)), .int (xs (n + 1)), .ref 66, .int (gE σ 61 ((((gE σ 58 ((((gE σ 56 (((xs (n + 1))).toNatClampNeg)) + (xs (n + 2)))).toNatClampNeg)) + (xs (n + 3)))).toNatClampNeg))]) rfl rfl rfl ?_
  refine ev_st (st' := [.int (nI (n + 3)), .ref 0, .int (xs (n + 2)), .int (xs (n + 1)), .ref 66, .int (gE σ 61 ((((gE σ 58 ((((gE σ 56 (((xs (n + 1))).toNatClampNeg)) + (xs (n + 2)))).toNatClampNeg)) + (xs (n + 3)))).toNatClampNeg))]) (congrArg (fun z => Value.int z :: [.ref 0, .int (xs (n + 2)), .int (xs (n + 1)), .ref 66, .int (gE σ 61 ((((gE σ 58 ((((gE σ 56 (((xs (n + 1))).toNatClampNeg)) + (xs (n + 2)))).toNatClampNeg)) + (xs (n + 3)))).toNatClampNeg))]) (nI_add n 3)) ?_
  refine ev_sg (p' := 601) rfl rfl hs (vp_in_nI (by omega) (by omega)) rfl ?_
  refine ev_st (st' := [.int (xs (n + 3)), .int (xs (n + 2)), .int (xs (n + 1)), .ref 66, .int (gE σ 61 ((((gE σ 58 ((((gE σ 56 (((xs (n + 1))).toNatClampNeg)) + (xs (n + 2)))).toNatClampNeg)) + (xs (n + 3)))).toNatClampNeg))]) (congrArg (fun z => Value.int (xs z) :: [.int (xs (n + 2)), .int (xs (n + 1)), .ref 66, .int (gE σ 61 ((((gE σ 58 ((((gE σ 56 (((xs (n + 1))).toNatClampNeg)) + (xs (n + 2)))).toNatClampNeg)) + (xs (n + 3)))).toNatClampNeg))]) (nI_clamp (n := n + 3) (by omega))) ?_
  refine ev_x (i := .aload_n 0) (len := 1) (p' := 602) (s' := [.ref 0, .int (xs (n + 3)), .int (xs (n + 2)), .int (xs (n + 1)), .ref 66, .int (gE σ 61 ((((gE σ 58 ((((gE σ 56 (((xs (n + 1))).toNatClampNeg)) + (xs (n + 2)))).toNatClampNeg)) + (xs (n + 3)))).toNatClampNeg))]) rfl rfl rfl ?_
  refine ev_x (i := .iload 4) (len := 2) (p' := 604) (s' := [.int (nI n), .ref 0, .int (xs (n + 3)), .int (xs (n + 2)), .int (xs (n + 1)), .ref 66, .int (gE σ 61 ((((gE σ 58 ((((gE σ 56 (((xs (n + 1))).toNatClampNeg)) + (xs (n + 2)))).toNatClampNeg)) + (xs (n + 3)))).toNatClampNeg))]) rfl rfl rfl ?_
  refine ev_x (i := .iconst 4) (len := 1) (p' := 605) (s' := [.int 4, .int (nI n), .ref 0, .int (xs (n + 3)), .int (xs (n + 2)), .int (xs (n + 1)), .ref 66, .int (gE σ 61 ((((gE σ 58 ((((gE σ 56 (((xs (n + 1))).toNatClampNeg)) + (xs (n + 2)))).toNatClampNeg)) + (xs (n + 3)))).toNatClampNeg))]) rfl rfl rfl ?_
  refine ev_x (i := .iadd) (len := 1) (p' := 606) (s' := [.int ((nI n) + 4), .ref 0, .int (xs (n + 3)), .int (xs (n + 2)), .int (xs (n + 1)), .ref 66, .int (gE σ 61 ((((gE σ 58 ((((gE σ 56 (((xs (n + 1))).toNatClampNeg)) + (xs (n + 2)))).toNatClampNeg)) + (xs (n + 3)))).toNatClampNeg))]) rfl rfl rfl ?_
  refine ev_st (st' := [.int (nI (n + 4)), .ref 0, .int (xs (n + 3)), .int (xs (n + 2)), .int (xs (n + 1)), .ref 66, .int (gE σ 61 ((((gE σ 58 ((((gE σ 56 (((xs (n + 1))).toNatClampNeg)) + (xs (n + 2)))).toNatClampNeg)) + (xs (n + 3)))).toNatClampNeg))]) (congrArg (fun z => Value.int z :: [.ref 0, .int (xs (n + 3)), .int (xs (n + 2)), .int (xs (n + 1)), .ref 66, .int (gE σ 61 ((((gE σ 58 ((((gE σ 56 (((xs (n + 1))).toNatClampNeg)) + (xs (n + 2)))).toNatClampNeg)) + (xs (n + 3)))).toNatClampNeg))]) (nI_add n 4)) ?_
  refine ev_sg (p' := 607) rfl rfl hs (vp_in_nI (by omega) (by omega)) rfl ?_
  refine ev_st (st' := [.int (xs (n + 4)), .int (xs (n + 3)), .int (xs (n + 2)), .int (xs (n + 1)), .ref 66, .int (gE σ 61 ((((gE σ 58 ((((gE σ 56 (((xs (n + 1))).toNatClampNeg)) + (xs (n + 2)))).toNatClampNeg)) + (xs (n + 3)))).toNatClampNeg))]) (congrArg (fun z => Value.int (xs z) :: [.int (xs (n + 3)), .int (xs (n + 2)), .int (xs (n + 1)), .ref 66, .int (gE σ 61 ((((gE σ 58 ((((gE σ 56 (((xs (n + 1))).toNatClampNeg)) + (xs (n + 2)))).toNatClampNeg)) + (xs (n + 3)))).toNatClampNeg))]) (nI_clamp (n := n + 4) (by omega))) ?_
  refine ev_cv (d := d + 4) (As := [.int (xs (n + 1)), .int (xs (n + 2)), .int (xs (n + 3)), .int (xs (n + 4))]) (a := 66) (p' := 610) rfl rfl rfl ly_66 rfl rfl rfl rfl rfl rfl rfl (lz_222 (d := d + 1) (c_1 := c_1) (c_2 := c_15) (c_3 := c_3) (c_4 := c_16) (c_5 := c_17) (c_6 := c_8) (c_7 := c_18) (c_8 := c_19) (c_9 := c_20) (c_10 := c_21) (c_11 := c_22) (c_12 := c_23) (c_13 := c_24) (c_14 := c_25) (c_15 := c_26)) ?_
  refine ev_st (st' := [.int ((gL σ 183 ((((gE σ 178 ((((gE σ 173 (((xs (n + 1))).toNatClampNeg)) + (xs (n + 2)))).toNatClampNeg)) + (xs (n + 3)))).toNatClampNeg)) : Int64).toInt32, .int (gE σ 61 ((((gE σ 58 ((((gE σ 56 (((xs (n + 1))).toNatClampNeg)) + (xs (n + 2)))).toNatClampNeg)) + (xs (n + 3)))).toNatClampNeg))]) rfl ?_
  refine ev_b2 (t := 615) (p' := 615) rfl rfl rfl (if_pos c_27) ?_
  exact k
set_option maxHeartbeats 4000000 in
set_option maxRecDepth 100000 in
/-- GameTextLaw.law([I)Z -/
theorem lw_13x_a1 {d : Nat} {σ : st_S} {x_b x_k : Int32} {q : vz_O × vz_H} {n L : Nat} {xs : Nat → Int32} (hs : gF σ 0 = .inl (0, L, .inl xs)) (hn : n + 6 ≤ L) (hL : L ≤ 3072) (c_1 : ¬ ((xs (n + 1)) < 0)) (c_2 : ¬ ((σ.1 52 10) ≤ (xs (n + 1)))) (c_3 : ¬ ((xs (n + 2)) < 0)) (c_4 : vp_in ((xs (n + 1)) + 1) (gN σ 56)) (c_5 : vp_in (xs (n + 1)) (gN σ 56)) (c_6 : (xs (n + 2)) < ((gE σ 56 ((((xs (n + 1)) + 1)).toNatClampNeg)) - (gE σ 56 (((xs (n + 1))).toNatClampNeg)))) (c_7 : ¬ (((gE σ 56 (((xs (n + 1))).toNatClampNeg)) + (xs (n + 2))) < 0)) (c_8 : ¬ ((xs (n + 3)) < 0)) (c_9 : vp_in (((gE σ 56 (((xs (n + 1))).toNatClampNeg)) + (xs (n + 2))) + 1) (gN σ 58)) (c_10 : vp_in ((gE σ 56 (((xs (n + 1))).toNatClampNeg)) + (xs (n + 2))) (gN σ 58)) (c_11 : (xs (n + 3)) < ((gE σ 58 (((((gE σ 56 (((xs (n + 1))).toNatClampNeg)) + (xs (n + 2))) + 1)).toNatClampNeg)) - (gE σ 58 ((((gE σ 56 (((xs (n + 1))).toNatClampNeg)) + (xs (n + 2)))).toNatClampNeg)))) (c_12 : 0 ≤ ((gE σ 58 ((((gE σ 56 (((xs (n + 1))).toNatClampNeg)) + (xs (n + 2)))).toNatClampNeg)) + (xs (n + 3)))) (c_13 : ((xs (n + 4)) : Int32).toInt < 0 ∨ 2 < ((xs (n + 4)) : Int32).toInt) (c_14 : ¬ ((σ.1 66 29) ≤ (xs (n + 1)))) (c_15 : vp_in (xs (n + 1)) (gN σ 174)) (c_16 : ¬ ((gE σ 174 (((xs (n + 1))).toNatClampNeg)) ≤ (xs (n + 2)))) (c_17 : vp_in (xs (n + 1)) (gN σ 173)) (c_18 : vp_in ((gE σ 173 (((xs (n + 1))).toNatClampNeg)) + (xs (n + 2))) (gN σ 180)) (c_19 : ¬ ((gE σ 180 ((((gE σ 173 (((xs (n + 1))).toNatClampNeg)) + (xs (n + 2)))).toNatClampNeg)) ≤ (xs (n + 3)))) (c_20 : (xs (n + 4)) < 0) (k : vz_ev P0 (d + 5) 0 615 [(4, .int (nI n)), (6, .int x_b), (5, .int x_k), (3, .ref 187), (2, .ref 66), (1, .ref 1), (0, .ref 0)] [] (hp (st_i (σ) 66 0 0)) q) : vz_ev P0 (d + 5) 0 554 [(4, .int (nI n)), (6, .int x_b), (5, .int x_k), (3, .ref 187), (2, .ref 66), (1, .ref 1), (0, .ref 0)] [] (hp σ) q := by
  refine ev_x (i := .aload_n 1) (len := 1) (p' := 555) (s' := [.ref 1]) rfl rfl rfl ?_
  refine ev_x (i := .aload_n 0) (len := 1) (p' := 556) (s' := [.ref 0, .ref 1]) rfl rfl rfl ?_
  refine ev_x (i := .iload 4) (len := 2) (p' := 558) (s' := [.int (nI n), .ref 0, .ref 1]) rfl rfl rfl ?_
  refine ev_x (i := .iconst 1) (len := 1) (p' := 559) (s' := [.int 1, .int (nI n), .ref 0, .ref 1]) rfl rfl rfl ?_
  refine ev_x (i := .iadd) (len := 1) (p' := 560) (s' := [.int ((nI n) + 1), .ref 0, .ref 1]) rfl rfl rfl ?_
  refine ev_st (st' := [.int (nI (n + 1)), .ref 0, .ref 1]) (congrArg (fun z => Value.int z :: [.ref 0, .ref 1]) (nI_add n 1)) ?_
  refine ev_sg (p' := 561) rfl rfl hs (vp_in_nI (by omega) (by omega)) rfl ?_
  refine ev_st (st' := [.int (xs (n + 1)), .ref 1]) (congrArg (fun z => Value.int (xs z) :: [.ref 1]) (nI_clamp (n := n + 1) (by omega))) ?_
  refine ev_x (i := .aload_n 0) (len := 1) (p' := 562) (s' := [.ref 0, .int (xs (n + 1)), .ref 1]) rfl rfl rfl ?_
  refine ev_x (i := .iload 4) (len := 2) (p' := 564) (s' := [.int (nI n), .ref 0, .int (xs (n + 1)), .ref 1]) rfl rfl rfl ?_
  refine ev_x (i := .iconst 2) (len := 1) (p' := 565) (s' := [.int 2, .int (nI n), .ref 0, .int (xs (n + 1)), .ref 1]) rfl rfl rfl ?_
  refine ev_x (i := .iadd) (len := 1) (p' := 566) (s' := [.int ((nI n) + 2), .ref 0, .int (xs (n + 1)), .ref 1]) rfl rfl rfl ?_
  refine ev_st (st' := [.int (nI (n + 2)), .ref 0, .int (xs (n + 1)), .ref 1]) (congrArg (fun z => Value.int z :: [.ref 0, .int (xs (n + 1)), .ref 1]) (nI_add n 2)) ?_
  refine ev_sg (p' := 567) rfl rfl hs (vp_in_nI (by omega) (by omega)) rfl ?_
  refine ev_st (st' := [.int (xs (n + 2)), .int (xs (n + 1)), .ref 1]) (congrArg (fun z => Value.int (xs z) :: [.int (xs (n + 1)), .ref 1]) (nI_clamp (n := n + 2) (by omega))) ?_
  refine ev_x (i := .aload_n 0) (len := 1) (p' := 568) (s' := [.ref 0, .int (xs (n + 2)), .int (xs (n + 1)), .ref 1]) rfl rfl rfl ?_
  refine ev_x (i := .iload 4) (len := 2) (p' := 570) (s' := [.int (nI n), .ref 0, .int (xs (n + 2)), .int (xs (n + 1)), .ref 1]) rfl rfl rfl ?_
  refine ev_x (i := .iconst 3) (len := 1) (p' := 571) (s' := [.int 3, .int (nI n), .ref 0, .int (xs (n + 2)), .int (xs (n + 1)), .ref 1]) rfl rfl rfl ?_
  refine ev_x (i := .iadd) (len := 1) (p' := 572) (s' := [.int ((nI n) + 3), .ref 0, .int (xs (n + 2)), .int (xs (n + 1)), .ref 1]) rfl rfl rfl ?_
  refine ev_st (st' := [.int (nI (n + 3)), .ref 0, .int (xs (n + 2)), .int (xs (n + 1)), .ref 1]) (congrArg (fun z => Value.int z :: [.ref 0, .int (xs (n + 2)), .int (xs (n + 1)), .ref 1]) (nI_add n 3)) ?_
  refine ev_sg (p' := 573) rfl rfl hs (vp_in_nI (by omega) (by omega)) rfl ?_
  refine ev_st (st' := [.int (xs (n + 3)), .int (xs (n + 2)), .int (xs (n + 1)), .ref 1]) (congrArg (fun z => Value.int (xs z) :: [.int (xs (n + 2)), .int (xs (n + 1)), .ref 1]) (nI_clamp (n := n + 3) (by omega))) ?_
  refine ev_x (i := .aload_n 0) (len := 1) (p' := 574) (s' := [.ref 0, .int (xs (n + 3)), .int (xs (n + 2)), .int (xs (n + 1)), .ref 1]) rfl rfl rfl ?_
  refine ev_x (i := .iload 4) (len := 2) (p' := 576) (s' := [.int (nI n), .ref 0, .int (xs (n + 3)), .int (xs (n + 2)), .int (xs (n + 1)), .ref 1]) rfl rfl rfl ?_
  refine ev_x (i := .iconst 4) (len := 1) (p' := 577) (s' := [.int 4, .int (nI n), .ref 0, .int (xs (n + 3)), .int (xs (n + 2)), .int (xs (n + 1)), .ref 1]) rfl rfl rfl ?_
  refine ev_x (i := .iadd) (len := 1) (p' := 578) (s' := [.int ((nI n) + 4), .ref 0, .int (xs (n + 3)), .int (xs (n + 2)), .int (xs (n + 1)), .ref 1]) rfl rfl rfl ?_
  refine ev_st (st' := [.int (nI (n + 4)), .ref 0, .int (xs (n + 3)), .int (xs (n + 2)), .int (xs (n + 1)), .ref 1]) (congrArg (fun z => Value.int z :: [.ref 0, .int (xs (n + 3)), .int (xs (n + 2)), .int (xs (n + 1)), .ref 1]) (nI_add n 4)) ?_
  refine ev_sg (p' := 579) rfl rfl hs (vp_in_nI (by omega) (by omega)) rfl ?_
  refine ev_st (st' := [.int (xs (n + 4)), .int (xs (n + 3)), .int (xs (n + 2)), .int (xs (n + 1)), .ref 1]) (congrArg (fun z => Value.int (xs z) :: [.int (xs (n + 3)), .int (xs (n + 2)), .int (xs (n + 1)), .ref 1]) (nI_clamp (n := n + 4) (by omega))) ?_
  refine ev_cv (d := d + 4) (As := [.int (xs (n + 1)), .int (xs (n + 2)), .int (xs (n + 3)), .int (xs (n + 4))]) (a := 1) (p' := 582) rfl rfl rfl ly_1 rfl rfl rfl rfl rfl rfl rfl (lz_227 (d := d + 0) (c_1 := c_1) (c_2 := c_2) (c_3 := c_3) (c_4 := c_4) (c_5 := c_5) (c_6 := c_6) (c_7 := c_7) (c_8 := c_8) (c_9 := c_9) (c_10 := c_10) (c_11 := c_11) (c_12 := c_12) (c_13 := c_13)) ?_
  refine ev_st (st' := [.int (-1)]) rfl ?_
  refine ev_x (i := .aload_n 2) (len := 1) (p' := 583) (s' := [.ref 66, .int (-1)]) rfl rfl rfl ?_
  refine ev_x (i := .aload_n 0) (len := 1) (p' := 584) (s' := [.ref 0, .ref 66, .int (-1)]) rfl rfl rfl ?_
  refine ev_x (i := .iload 4) (len := 2) (p' := 586) (s' := [.int (nI n), .ref 0, .ref 66, .int (-1)]) rfl rfl rfl ?_
  refine ev_x (i := .iconst 1) (len := 1) (p' := 587) (s' := [.int 1, .int (nI n), .ref 0, .ref 66, .int (-1)]) rfl rfl rfl ?_
  refine ev_x (i := .iadd) (len := 1) (p' := 588) (s' := [.int ((nI n) + 1), .ref 0, .ref 66, .int (-1)]) rfl rfl rfl ?_
  refine ev_st (st' := [.int (nI (n + 1)), .ref 0, .ref 66, .int (-1)]) (congrArg (fun z => Value.int z :: [.ref 0, .ref 66, .int (-1)]) (nI_add n 1)) ?_
  refine ev_sg (p' := 589) rfl rfl hs (vp_in_nI (by omega) (by omega)) rfl ?_
  refine ev_st (st' := [.int (xs (n + 1)), .ref 66, .int (-1)]) (congrArg (fun z => Value.int (xs z) :: [.ref 66, .int (-1)]) (nI_clamp (n := n + 1) (by omega))) ?_
  refine ev_x (i := .aload_n 0) (len := 1) (p' := 590) (s' := [.ref 0, .int (xs (n + 1)), .ref 66, .int (-1)]) rfl rfl rfl ?_
  refine ev_x (i := .iload 4) (len := 2) (p' := 592) (s' := [.int (nI n), .ref 0, .int (xs (n + 1)), .ref 66, .int (-1)]) rfl rfl rfl ?_
  refine ev_x (i := .iconst 2) (len := 1) (p' := 593) (s' := [.int 2, .int (nI n), .ref 0, .int (xs (n + 1)), .ref 66, .int (-1)]) rfl rfl rfl ?_
  refine ev_x (i := .iadd) (len := 1) (p' := 594) (s' := [.int ((nI n) + 2), .ref 0, .int (xs (n + 1)), .ref 66, .int (-1)]) rfl rfl rfl ?_
  refine ev_st (st' := [.int (nI (n + 2)), .ref 0, .int (xs (n + 1)), .ref 66, .int (-1)]) (congrArg (fun z => Value.int z :: [.ref 0, .int (xs (n + 1)), .ref 66, .int (-1)]) (nI_add n 2)) ?_
  refine ev_sg (p' := 595) rfl rfl hs (vp_in_nI (by omega) (by omega)) rfl ?_
  refine ev_st (st' := [.int (xs (n + 2)), .int (xs (n + 1)), .ref 66, .int (-1)]) (congrArg (fun z => Value.int (xs z) :: [.int (xs (n + 1)), .ref 66, .int (-1)]) (nI_clamp (n := n + 2) (by omega))) ?_
  refine ev_x (i := .aload_n 0) (len := 1) (p' := 596) (s' := [.ref 0, .int (xs (n + 2)), .int (xs (n + 1)), .ref 66, .int (-1)]) rfl rfl rfl ?_
  refine ev_x (i := .iload 4) (len := 2) (p' := 598) (s' := [.int (nI n), .ref 0, .int (xs (n + 2)), .int (xs (n + 1)), .ref 66, .int (-1)]) rfl rfl rfl ?_
  refine ev_x (i := .iconst 3) (len := 1) (p' := 599) (s' := [.int 3, .int (nI n), .ref 0, .int (xs (n + 2)), .int (xs (n + 1)), .ref 66, .int (-1)]) rfl rfl rfl ?_
  refine ev_x (i := .iadd) (len := 1) (p' := 600) (s' := [.int ((nI n) + 3), .ref 0, .int (xs (n + 2)), .int (xs (n + 1)), .ref 66, .int (-1)]) rfl rfl rfl ?_
  refine ev_st (st' := [.int (nI (n + 3)), .ref 0, .int (xs (n + 2)), .int (xs (n + 1)), .ref 66, .int (-1)]) (congrArg (fun z => Value.int z :: [.ref 0, .int (xs (n + 2)), .int (xs (n + 1)), .ref 66, .int (-1)]) (nI_add n 3)) ?_
  refine ev_sg (p' := 601) rfl rfl hs (vp_in_nI (by omega) (by omega)) rfl ?_
  refine ev_st (st' := [.int (xs (n + 3)), .int (xs (n + 2)), .int (xs (n + 1)), .ref 66, .int (-1)]) (congrArg (fun z => Value.int (xs z) :: [.int (xs (n + 2)), .int (xs (n + 1)), .ref 66, .int (-1)]) (nI_clamp (n := n + 3) (by omega))) ?_
  refine ev_x (i := .aload_n 0) (len := 1) (p' := 602) (s' := [.ref 0, .int (xs (n + 3)), .int (xs (n + 2)), .int (xs (n + 1)), .ref 66, .int (-1)]) rfl rfl rfl ?_
  refine ev_x (i := .iload 4) (len := 2) (p' := 604) (s' := [.int (nI n), .ref 0, .int (xs (n + 3)), .int (xs (n + 2)), .int (xs (n + 1)), .ref 66, .int (-1)]) rfl rfl rfl ?_
  refine ev_x (i := .iconst 4) (len := 1) (p' := 605) (s' := [.int 4, .int (nI n), .ref 0, .int (xs (n + 3)), .int (xs (n + 2)), .int (xs (n + 1)), .ref 66, .int (-1)]) rfl rfl rfl ?_
  refine ev_x (i := .iadd) (len := 1) (p' := 606) (s' := [.int ((nI n) + 4), .ref 0, .int (xs (n + 3)), .int (xs (n + 2)), .int (xs (n + 1)), .ref 66, .int (-1)]) rfl rfl rfl ?_
  refine ev_st (st' := [.int (nI (n + 4)), .ref 0, .int (xs (n + 3)), .int (xs (n + 2)), .int (xs (n + 1)), .ref 66, .int (-1)]) (congrArg (fun z => Value.int z :: [.ref 0, .int (xs (n + 3)), .int (xs (n + 2)), .int (xs (n + 1)), .ref 66, .int (-1)]) (nI_add n 4)) ?_
  refine ev_sg (p' := 607) rfl rfl hs (vp_in_nI (by omega) (by omega)) rfl ?_
  refine ev_st (st' := [.int (xs (n + 4)), .int (xs (n + 3)), .int (xs (n + 2)), .int (xs (n + 1)), .ref 66, .int (-1)]) (congrArg (fun z => Value.int (xs z) :: [.int (xs (n + 3)), .int (xs (n + 2)), .int (xs (n + 1)), .ref 66, .int (-1)]) (nI_clamp (n := n + 4) (by omega))) ?_
  refine ev_cv (d := d + 4) (As := [.int (xs (n + 1)), .int (xs (n + 2)), .int (xs (n + 3)), .int (xs (n + 4))]) (a := 66) (p' := 610) rfl rfl rfl ly_66 rfl rfl rfl rfl rfl rfl rfl (lz_231 (d := d + 1) (c_1 := c_1) (c_2 := c_14) (c_3 := c_3) (c_4 := c_15) (c_5 := c_16) (c_6 := c_8) (c_7 := c_17) (c_8 := c_18) (c_9 := c_19) (c_10 := c_20)) ?_
  refine ev_st (st' := [.int (-1), .int (-1)]) rfl ?_
  refine ev_b2 (t := 615) (p' := 615) rfl rfl rfl (by decide) ?_
  exact k
set_option maxHeartbeats 4000000 in
set_option maxRecDepth 100000 in
/-- GameTextLaw.law([I)Z -/
theorem lw_13y_a1 {d : Nat} {σ : st_S} {x_b x_k : Int32} {q : vz_O × vz_H} {n L : Nat} {xs : Nat → Int32} (hs : gF σ 0 = .inl (0, L, .inl xs)) (hn : n + 6 ≤ L) (hL : L ≤ 3072) (c_1 : ¬ ((xs (n + 1)) < 0)) (c_2 : ¬ ((σ.1 52 10) ≤ (xs (n + 1)))) (c_3 : ¬ ((xs (n + 2)) < 0)) (c_4 : vp_in ((xs (n + 1)) + 1) (gN σ 56)) (c_5 : vp_in (xs (n + 1)) (gN σ 56)) (c_6 : (xs (n + 2)) < ((gE σ 56 ((((xs (n + 1)) + 1)).toNatClampNeg)) - (gE σ 56 (((xs (n + 1))).toNatClampNeg)))) (c_7 : ¬ (((gE σ 56 (((xs (n + 1))).toNatClampNeg)) + (xs (n + 2))) < 0)) (c_8 : ¬ ((xs (n + 3)) < 0)) (c_9 : vp_in (((gE σ 56 (((xs (n + 1))).toNatClampNeg)) + (xs (n + 2))) + 1) (gN σ 58)) (c_10 : vp_in ((gE σ 56 (((xs (n + 1))).toNatClampNeg)) + (xs (n + 2))) (gN σ 58)) (c_11 : (xs (n + 3)) < ((gE σ 58 (((((gE σ 56 (((xs (n + 1))).toNatClampNeg)) + (xs (n + 2))) + 1)).toNatClampNeg)) - (gE σ 58 ((((gE σ 56 (((xs (n + 1))).toNatClampNeg)) + (xs (n + 2)))).toNatClampNeg)))) (c_12 : 0 ≤ ((gE σ 58 ((((gE σ 56 (((xs (n + 1))).toNatClampNeg)) + (xs (n + 2)))).toNatClampNeg)) + (xs (n + 3)))) (c_13 : ((xs (n + 4)) : Int32).toInt < 0 ∨ 2 < ((xs (n + 4)) : Int32).toInt) (c_14 : ¬ ((σ.1 66 29) ≤ (xs (n + 1)))) (c_15 : vp_in (xs (n + 1)) (gN σ 174)) (c_16 : ¬ ((gE σ 174 (((xs (n + 1))).toNatClampNeg)) ≤ (xs (n + 2)))) (c_17 : vp_in (xs (n + 1)) (gN σ 173)) (c_18 : vp_in ((gE σ 173 (((xs (n + 1))).toNatClampNeg)) + (xs (n + 2))) (gN σ 180)) (c_19 : ¬ ((gE σ 180 ((((gE σ 173 (((xs (n + 1))).toNatClampNeg)) + (xs (n + 2)))).toNatClampNeg)) ≤ (xs (n + 3)))) (c_20 : ¬ ((xs (n + 4)) < 0)) (c_21 : ¬ ((xs (n + 4)) ≤ 2)) (k : vz_ev P0 (d + 5) 0 615 [(4, .int (nI n)), (6, .int x_b), (5, .int x_k), (3, .ref 187), (2, .ref 66), (1, .ref 1), (0, .ref 0)] [] (hp (st_i (σ) 66 0 0)) q) : vz_ev P0 (d + 5) 0 554 [(4, .int (nI n)), (6, .int x_b), (5, .int x_k), (3, .ref 187), (2, .ref 66), (1, .ref 1), (0, .ref 0)] [] (hp σ) q := by
  refine ev_x (i := .aload_n 1) (len := 1) (p' := 555) (s' := [.ref 1]) rfl rfl rfl ?_
  refine ev_x (i := .aload_n 0) (len := 1) (p' := 556) (s' := [.ref 0, .ref 1]) rfl rfl rfl ?_
  refine ev_x (i := .iload 4) (len := 2) (p' := 558) (s' := [.int (nI n), .ref 0, .ref 1]) rfl rfl rfl ?_
  refine ev_x (i := .iconst 1) (len := 1) (p' := 559) (s' := [.int 1, .int (nI n), .ref 0, .ref 1]) rfl rfl rfl ?_
  refine ev_x (i := .iadd) (len := 1) (p' := 560) (s' := [.int ((nI n) + 1), .ref 0, .ref 1]) rfl rfl rfl ?_
  refine ev_st (st' := [.int (nI (n + 1)), .ref 0, .ref 1]) (congrArg (fun z => Value.int z :: [.ref 0, .ref 1]) (nI_add n 1)) ?_
  refine ev_sg (p' := 561) rfl rfl hs (vp_in_nI (by omega) (by omega)) rfl ?_
  refine ev_st (st' := [.int (xs (n + 1)), .ref 1]) (congrArg (fun z => Value.int (xs z) :: [.ref 1]) (nI_clamp (n := n + 1) (by omega))) ?_
  refine ev_x (i := .aload_n 0) (len := 1) (p' := 562) (s' := [.ref 0, .int (xs (n + 1)), .ref 1]) rfl rfl rfl ?_
  refine ev_x (i := .iload 4) (len := 2) (p' := 564) (s' := [.int (nI n), .ref 0, .int (xs (n + 1)), .ref 1]) rfl rfl rfl ?_
  refine ev_x (i := .iconst 2) (len := 1) (p' := 565) (s' := [.int 2, .int (nI n), .ref 0, .int (xs (n + 1)), .ref 1]) rfl rfl rfl ?_
  refine ev_x (i := .iadd) (len := 1) (p' := 566) (s' := [.int ((nI n) + 2), .ref 0, .int (xs (n + 1)), .ref 1]) rfl rfl rfl ?_
  refine ev_st (st' := [.int (nI (n + 2)), .ref 0, .int (xs (n + 1)), .ref 1]) (congrArg (fun z => Value.int z :: [.ref 0, .int (xs (n + 1)), .ref 1]) (nI_add n 2)) ?_
  refine ev_sg (p' := 567) rfl rfl hs (vp_in_nI (by omega) (by omega)) rfl ?_
  refine ev_st (st' := [.int (xs (n + 2)), .int (xs (n + 1)), .ref 1]) (congrArg (fun z => Value.int (xs z) :: [.int (xs (n + 1)), .ref 1]) (nI_clamp (n := n + 2) (by omega))) ?_
  refine ev_x (i := .aload_n 0) (len := 1) (p' := 568) (s' := [.ref 0, .int (xs (n + 2)), .int (xs (n + 1)), .ref 1]) rfl rfl rfl ?_
  refine ev_x (i := .iload 4) (len := 2) (p' := 570) (s' := [.int (nI n), .ref 0, .int (xs (n + 2)), .int (xs (n + 1)), .ref 1]) rfl rfl rfl ?_
  refine ev_x (i := .iconst 3) (len := 1) (p' := 571) (s' := [.int 3, .int (nI n), .ref 0, .int (xs (n + 2)), .int (xs (n + 1)), .ref 1]) rfl rfl rfl ?_
  refine ev_x (i := .iadd) (len := 1) (p' := 572) (s' := [.int ((nI n) + 3), .ref 0, .int (xs (n + 2)), .int (xs (n + 1)), .ref 1]) rfl rfl rfl ?_
  refine ev_st (st' := [.int (nI (n + 3)), .ref 0, .int (xs (n + 2)), .int (xs (n + 1)), .ref 1]) (congrArg (fun z => Value.int z :: [.ref 0, .int (xs (n + 2)), .int (xs (n + 1)), .ref 1]) (nI_add n 3)) ?_
  refine ev_sg (p' := 573) rfl rfl hs (vp_in_nI (by omega) (by omega)) rfl ?_
  refine ev_st (st' := [.int (xs (n + 3)), .int (xs (n + 2)), .int (xs (n + 1)), .ref 1]) (congrArg (fun z => Value.int (xs z) :: [.int (xs (n + 2)), .int (xs (n + 1)), .ref 1]) (nI_clamp (n := n + 3) (by omega))) ?_
  refine ev_x (i := .aload_n 0) (len := 1) (p' := 574) (s' := [.ref 0, .int (xs (n + 3)), .int (xs (n + 2)), .int (xs (n + 1)), .ref 1]) rfl rfl rfl ?_
  refine ev_x (i := .iload 4) (len := 2) (p' := 576) (s' := [.int (nI n), .ref 0, .int (xs (n + 3)), .int (xs (n + 2)), .int (xs (n + 1)), .ref 1]) rfl rfl rfl ?_
  refine ev_x (i := .iconst 4) (len := 1) (p' := 577) (s' := [.int 4, .int (nI n), .ref 0, .int (xs (n + 3)), .int (xs (n + 2)), .int (xs (n + 1)), .ref 1]) rfl rfl rfl ?_
  refine ev_x (i := .iadd) (len := 1) (p' := 578) (s' := [.int ((nI n) + 4), .ref 0, .int (xs (n + 3)), .int (xs (n + 2)), .int (xs (n + 1)), .ref 1]) rfl rfl rfl ?_
  refine ev_st (st' := [.int (nI (n + 4)), .ref 0, .int (xs (n + 3)), .int (xs (n + 2)), .int (xs (n + 1)), .ref 1]) (congrArg (fun z => Value.int z :: [.ref 0, .int (xs (n + 3)), .int (xs (n + 2)), .int (xs (n + 1)), .ref 1]) (nI_add n 4)) ?_
  refine ev_sg (p' := 579) rfl rfl hs (vp_in_nI (by omega) (by omega)) rfl ?_
  refine ev_st (st' := [.int (xs (n + 4)), .int (xs (n + 3)), .int (xs (n + 2)), .int (xs (n + 1)), .ref 1]) (congrArg (fun z => Value.int (xs z) :: [.int (xs (n + 3)), .int (xs (n + 2)), .int (xs (n + 1)), .ref 1]) (nI_clamp (n := n + 4) (by omega))) ?_
  refine ev_cv (d := d + 4) (As := [.int (xs (n + 1)), .int (xs (n + 2)), .int (xs (n + 3)), .int (xs (n + 4))]) (a := 1) (p' := 582) rfl rfl rfl ly_1 rfl rfl rfl rfl rfl rfl rfl (lz_227 (d := d + 0) (c_1 := c_1) (c_2 := c_2) (c_3 := c_3) (c_4 := c_4) (c_5 := c_5) (c_6 := c_6) (c_7 := c_7) (c_8 := c_8) (c_9 := c_9) (c_10 := c_10) (c_11 := c_11) (c_12 := c_12) (c_13 := c_13)) ?_
  refine ev_st (st' := [.int (-1)]) rfl ?_
  refine ev_x (i := .aload_n 2) (len := 1) (p' := 583) (s' := [.ref 66, .int (-1)]) rfl rfl rfl ?_
  refine ev_x (i := .aload_n 0) (len := 1) (p' := 584) (s' := [.ref 0, .ref 66, .int (-1)]) rfl rfl rfl ?_
  refine ev_x (i := .iload 4) (len := 2) (p' := 586) (s' := [.int (nI n), .ref 0, .ref 66, .int (-1)]) rfl rfl rfl ?_
  refine ev_x (i := .iconst 1) (len := 1) (p' := 587) (s' := [.int 1, .int (nI n), .ref 0, .ref 66, .int (-1)]) rfl rfl rfl ?_
  refine ev_x (i := .iadd) (len := 1) (p' := 588) (s' := [.int ((nI n) + 1), .ref 0, .ref 66, .int (-1)]) rfl rfl rfl ?_
  refine ev_st (st' := [.int (nI (n + 1)), .ref 0, .ref 66, .int (-1)]) (congrArg (fun z => Value.int z :: [.ref 0, .ref 66, .int (-1)]) (nI_add n 1)) ?_
  refine ev_sg (p' := 589) rfl rfl hs (vp_in_nI (by omega) (by omega)) rfl ?_
  refine ev_st (st' := [.int (xs (n + 1)), .ref 66, .int (-1)]) (congrArg (fun z => Value.int (xs z) :: [.ref 66, .int (-1)]) (nI_clamp (n := n + 1) (by omega))) ?_
  refine ev_x (i := .aload_n 0) (len := 1) (p' := 590) (s' := [.ref 0, .int (xs (n + 1)), .ref 66, .int (-1)]) rfl rfl rfl ?_
  refine ev_x (i := .iload 4) (len := 2) (p' := 592) (s' := [.int (nI n), .ref 0, .int (xs (n + 1)), .ref 66, .int (-1)]) rfl rfl rfl ?_
  refine ev_x (i := .iconst 2) (len := 1) (p' := 593) (s' := [.int 2, .int (nI n), .ref 0, .int (xs (n + 1)), .ref 66, .int (-1)]) rfl rfl rfl ?_
  refine ev_x (i := .iadd) (len := 1) (p' := 594) (s' := [.int ((nI n) + 2), .ref 0, .int (xs (n + 1)), .ref 66, .int (-1)]) rfl rfl rfl ?_
  refine ev_st (st' := [.int (nI (n + 2)), .ref 0, .int (xs (n + 1)), .ref 66, .int (-1)]) (congrArg (fun z => Value.int z :: [.ref 0, .int (xs (n + 1)), .ref 66, .int (-1)]) (nI_add n 2)) ?_
  refine ev_sg (p' := 595) rfl rfl hs (vp_in_nI (by omega) (by omega)) rfl ?_
  refine ev_st (st' := [.int (xs (n + 2)), .int (xs (n + 1)), .ref 66, .int (-1)]) (congrArg (fun z => Value.int (xs z) :: [.int (xs (n + 1)), .ref 66, .int (-1)]) (nI_clamp (n := n + 2) (by omega))) ?_
  refine ev_x (i := .aload_n 0) (len := 1) (p' := 596) (s' := [.ref 0, .int (xs (n + 2)), .int (xs (n + 1)), .ref 66, .int (-1)]) rfl rfl rfl ?_
  refine ev_x (i := .iload 4) (len := 2) (p' := 598) (s' := [.int (nI n), .ref 0, .int (xs (n + 2)), .int (xs (n + 1)), .ref 66, .int (-1)]) rfl rfl rfl ?_
  refine ev_x (i := .iconst 3) (len := 1) (p' := 599) (s' := [.int 3, .int (nI n), .ref 0, .int (xs (n + 2)), .int (xs (n + 1)), .ref 66, .int (-1)]) rfl rfl rfl ?_
  refine ev_x (i := .iadd) (len := 1) (p' := 600) (s' := [.int ((nI n) + 3), .ref 0, .int (xs (n + 2)), .int (xs (n + 1)), .ref 66, .int (-1)]) rfl rfl rfl ?_
  refine ev_st (st' := [.int (nI (n + 3)), .ref 0, .int (xs (n + 2)), .int (xs (n + 1)), .ref 66, .int (-1)]) (congrArg (fun z => Value.int z :: [.ref 0, .int (xs (n + 2)), .int (xs (n + 1)), .ref 66, .int (-1)]) (nI_add n 3)) ?_
  refine ev_sg (p' := 601) rfl rfl hs (vp_in_nI (by omega) (by omega)) rfl ?_
  refine ev_st (st' := [.int (xs (n + 3)), .int (xs (n + 2)), .int (xs (n + 1)), .ref 66, .int (-1)]) (congrArg (fun z => Value.int (xs z) :: [.int (xs (n + 2)), .int (xs (n + 1)), .ref 66, .int (-1)]) (nI_clamp (n := n + 3) (by omega))) ?_
  refine ev_x (i := .aload_n 0) (len := 1) (p' := 602) (s' := [.ref 0, .int (xs (n + 3)), .int (xs (n + 2)), .int (xs (n + 1)), .ref 66, .int (-1)]) rfl rfl rfl ?_
  refine ev_x (i := .iload 4) (len := 2) (p' := 604) (s' := [.int (nI n), .ref 0, .int (xs (n + 3)), .int (xs (n + 2)), .int (xs (n + 1)), .ref 66, .int (-1)]) rfl rfl rfl ?_
  refine ev_x (i := .iconst 4) (len := 1) (p' := 605) (s' := [.int 4, .int (nI n), .ref 0, .int (xs (n + 3)), .int (xs (n + 2)), .int (xs (n + 1)), .ref 66, .int (-1)]) rfl rfl rfl ?_
  refine ev_x (i := .iadd) (len := 1) (p' := 606) (s' := [.int ((nI n) + 4), .ref 0, .int (xs (n + 3)), .int (xs (n + 2)), .int (xs (n + 1)), .ref 66, .int (-1)]) rfl rfl rfl ?_
  refine ev_st (st' := [.int (nI (n + 4)), .ref 0, .int (xs (n + 3)), .int (xs (n + 2)), .int (xs (n + 1)), .ref 66, .int (-1)]) (congrArg (fun z => Value.int z :: [.ref 0, .int (xs (n + 3)), .int (xs (n + 2)), .int (xs (n + 1)), .ref 66, .int (-1)]) (nI_add n 4)) ?_
  refine ev_sg (p' := 607) rfl rfl hs (vp_in_nI (by omega) (by omega)) rfl ?_
  refine ev_st (st' := [.int (xs (n + 4)), .int (xs (n + 3)), .int (xs (n + 2)), .int (xs (n + 1)), .ref 66, .int (-1)]) (congrArg (fun z => Value.int (xs z) :: [.int (xs (n + 3)), .int (xs (n + 2)), .int (xs (n + 1)), .ref 66, .int (-1)]) (nI_clamp (n := n + 4) (by omega))) ?_
  refine ev_cv (d := d + 4) (As := [.int (xs (n + 1)), .int (xs (n + 2)), .int (xs (n + 3)), .int (xs (n + 4))]) (a := 66) (p' := 610) rfl rfl rfl ly_66 rfl rfl rfl rfl rfl rfl rfl (lz_240 (d := d + 1) (c_1 := c_1) (c_2 := c_14) (c_3 := c_3) (c_4 := c_15) (c_5 := c_16) (c_6 := c_8) (c_7 := c_17) (c_8 := c_18) (c_9 := c_19) (c_10 := c_20) (c_11 := c_21)) ?_
  refine ev_st (st' := [.int (-1), .int (-1)]) rfl ?_
  refine ev_b2 (t := 615) (p' := 615) rfl rfl rfl (by decide) ?_
  exact k
set_option maxHeartbeats 4000000 in
set_option maxRecDepth 100000 in
/-- GameTextLaw.law([I)Z -/
theorem lw_8n_a1 {d : Nat} {σ : st_S} {x_b x_k : Int32} {q : vz_O × vz_H} {n L : Nat} {xs : Nat → Int32} (hs : gF σ 0 = .inl (0, L, .inl xs)) (hn : n + 6 ≤ L) (hL : L ≤ 3072) (c_1 : (xs (n + 1)) < 0) (k : vz_ev P0 (d + 10) 0 615 [(6, .int 0), (5, .int 1), (4, .int (nI n)), (3, .ref 187), (2, .ref 66), (1, .ref 1), (0, .ref 0)] [] (hp (st_i (st_n (σ) 1 6) 66 0 1)) q) : vz_ev P0 (d + 10) 0 362 [(4, .int (nI n)), (6, .int x_b), (5, .int x_k), (3, .ref 187), (2, .ref 66), (1, .ref 1), (0, .ref 0)] [] (hp σ) q := by
  refine ev_x (i := .aload_n 1) (len := 1) (p' := 363) (s' := [.ref 1]) rfl rfl rfl ?_
  refine ev_x (i := .aload_n 0) (len := 1) (p' := 364) (s' := [.ref 0, .ref 1]) rfl rfl rfl ?_
  refine ev_x (i := .iload 4) (len := 2) (p' := 366) (s' := [.int (nI n), .ref 0, .ref 1]) rfl rfl rfl ?_
  refine ev_x (i := .iconst 1) (len := 1) (p' := 367) (s' := [.int 1, .int (nI n), .ref 0, .ref 1]) rfl rfl rfl ?_
  refine ev_x (i := .iadd) (len := 1) (p' := 368) (s' := [.int ((nI n) + 1), .ref 0, .ref 1]) rfl rfl rfl ?_
  refine ev_st (st' := [.int (nI (n + 1)), .ref 0, .ref 1]) (congrArg (fun z => Value.int z :: [.ref 0, .ref 1]) (nI_add n 1)) ?_
  refine ev_sg (p' := 369) rfl rfl hs (vp_in_nI (by omega) (by omega)) rfl ?_
  refine ev_st (st' := [.int (xs (n + 1)), .ref 1]) (congrArg (fun z => Value.int (xs z) :: [.ref 1]) (nI_clamp (n := n + 1) (by omega))) ?_
  refine ev_x (i := .aload_n 0) (len := 1) (p' := 370) (s' := [.ref 0, .int (xs (n + 1)), .ref 1]) rfl rfl rfl ?_
  refine ev_x (i := .iload 4) (len := 2) (p' := 372) (s' := [.int (nI n), .ref 0, .int (xs (n + 1)), .ref 1]) rfl rfl rfl ?_
  refine ev_x (i := .iconst 2) (len := 1) (p' := 373) (s' := [.int 2, .int (nI n), .ref 0, .int (xs (n + 1)), .ref 1]) rfl rfl rfl ?_
  refine ev_x (i := .iadd) (len := 1) (p' := 374) (s' := [.int ((nI n) + 2), .ref 0, .int (xs (n + 1)), .ref 1]) rfl rfl rfl ?_
  refine ev_st (st' := [.int (nI (n + 2)), .ref 0, .int (xs (n + 1)), .ref 1]) (congrArg (fun z => Value.int z :: [.ref 0, .int (xs (n + 1)), .ref 1]) (nI_add n 2)) ?_
  refine ev_sg (p' := 375) rfl rfl hs (vp_in_nI (by omega) (by omega)) rfl ?_
  refine ev_st (st' := [.int (xs (n + 2)), .int (xs (n + 1)), .ref 1]) (congrArg (fun z => Value.int (xs z) :: [.int (xs (n + 1)), .ref 1]) (nI_clamp (n := n + 2) (by omega))) ?_
  refine ev_x (i := .aload_n 3) (len := 1) (p' := 376) (s' := [.ref 187, .int (xs (n + 2)), .int (xs (n + 1)), .ref 1]) rfl rfl rfl ?_
  refine ev_callS (d := d + 9) (As := [.ref 1, .int (xs (n + 1)), .int (xs (n + 2)), .ref 187]) rfl rfl rfl (by decide) rfl rfl rfl rfl rfl (lz_244 (d := d + 0) (c_1 := c_1)) ?_
  refine ev_st (st' := [.int 1]) rfl ?_
  refine ev_pc (pc' := 379) rfl ?_
  refine ev_x (i := .istore 5) (len := 2) (p' := 381) (s' := []) (l' := [(5, .int 1), (4, .int (nI n)), (6, .int x_b), (3, .ref 187), (2, .ref 66), (1, .ref 1), (0, .ref 0)]) rfl rfl rfl ?_
  refine ev_x (i := .aload_n 2) (len := 1) (p' := 382) (s' := [.ref 66]) rfl rfl rfl ?_
  refine ev_x (i := .aload_n 0) (len := 1) (p' := 383) (s' := [.ref 0, .ref 66]) rfl rfl rfl ?_
  refine ev_x (i := .iload 4) (len := 2) (p' := 385) (s' := [.int (nI n), .ref 0, .ref 66]) rfl rfl rfl ?_
  refine ev_x (i := .iconst 1) (len := 1) (p' := 386) (s' := [.int 1, .int (nI n), .ref 0, .ref 66]) rfl rfl rfl ?_
  refine ev_x (i := .iadd) (len := 1) (p' := 387) (s' := [.int ((nI n) + 1), .ref 0, .ref 66]) rfl rfl rfl ?_
  refine ev_st (st' := [.int (nI (n + 1)), .ref 0, .ref 66]) (congrArg (fun z => Value.int z :: [.ref 0, .ref 66]) (nI_add n 1)) ?_
  refine ev_sg (p' := 388) rfl rfl hs (vp_in_nI (by omega) (by omega)) rfl ?_
  refine ev_st (st' := [.int (xs (n + 1)), .ref 66]) (congrArg (fun z => Value.int (xs z) :: [.ref 66]) (nI_clamp (n := n + 1) (by omega))) ?_
  refine ev_x (i := .aload_n 0) (len := 1) (p' := 389) (s' := [.ref 0, .int (xs (n + 1)), .ref 66]) rfl rfl rfl ?_
  refine ev_x (i := .iload 4) (len := 2) (p' := 391) (s' := [.int (nI n), .ref 0, .int (xs (n + 1)), .ref 66]) rfl rfl rfl ?_
  refine ev_x (i := .iconst 2) (len := 1) (p' := 392) (s' := [.int 2, .int (nI n), .ref 0, .int (xs (n + 1)), .ref 66]) rfl rfl rfl ?_
  refine ev_x (i := .iadd) (len := 1) (p' := 393) (s' := [.int ((nI n) + 2), .ref 0, .int (xs (n + 1)), .ref 66]) rfl rfl rfl ?_
  refine ev_st (st' := [.int (nI (n + 2)), .ref 0, .int (xs (n + 1)), .ref 66]) (congrArg (fun z => Value.int z :: [.ref 0, .int (xs (n + 1)), .ref 66]) (nI_add n 2)) ?_
  refine ev_sg (p' := 394) rfl rfl hs (vp_in_nI (by omega) (by omega)) rfl ?_
  refine ev_st (st' := [.int (xs (n + 2)), .int (xs (n + 1)), .ref 66]) (congrArg (fun z => Value.int (xs z) :: [.int (xs (n + 1)), .ref 66]) (nI_clamp (n := n + 2) (by omega))) ?_
  refine ev_cv (d := d + 9) (As := [.int (xs (n + 1)), .int (xs (n + 2))]) (a := 66) (p' := 397) rfl rfl rfl ly_66 rfl rfl rfl rfl rfl rfl rfl (lz_245 (d := d + 8) (c_1 := c_1)) ?_
  refine ev_st (st' := [.int 0]) rfl ?_
  refine ev_x (i := .istore 6) (len := 2) (p' := 399) (s' := []) (l' := [(6, .int 0), (5, .int 1), (4, .int (nI n)), (3, .ref 187), (2, .ref 66), (1, .ref 1), (0, .ref 0)]) rfl rfl rfl ?_
  refine ev_x (i := .aload_n 2) (len := 1) (p' := 400) (s' := [.ref 66]) rfl rfl rfl ?_
  refine ev_cv (d := d + 9) (As := []) (a := 66) (p' := 403) rfl rfl rfl ly_66 rfl rfl rfl rfl rfl rfl rfl (lz_246 (d := d + 8) (hi_66_0 := rfl)) ?_
  refine ev_st (st' := [.int 1]) rfl ?_
  refine ev_x (i := .iload 5) (len := 2) (p' := 405) (s' := [.int 1, .int 1]) rfl rfl rfl ?_
  refine ev_b2 (t := 410) (p' := 410) rfl rfl rfl (by decide) ?_
  refine ev_x (i := .iload 5) (len := 2) (p' := 412) (s' := [.int 1]) rfl rfl rfl ?_
  refine ev_b0 (t := 427) (p' := 427) rfl rfl rfl (by decide) ?_
  refine ev_x (i := .goto 188) (len := 3) (p' := 615) (s' := []) rfl rfl rfl ?_
  exact k
set_option maxHeartbeats 4000000 in
set_option maxRecDepth 100000 in
/-- GameTextLaw.law([I)Z -/
theorem lw_8g_a1 {d : Nat} {σ : st_S} {x_b x_k : Int32} {q : vz_O × vz_H} {n L : Nat} {xs : Nat → Int32} (hs : gF σ 0 = .inl (0, L, .inl xs)) (hn : n + 6 ≤ L) (hL : L ≤ 3072) (c_1 : ¬ ((xs (n + 1)) < 0)) (c_2 : (σ.1 52 10) ≤ (xs (n + 1))) (c_3 : (σ.1 66 29) ≤ (xs (n + 1))) (k : vz_ev P0 (d + 10) 0 615 [(6, .int 0), (5, .int 1), (4, .int (nI n)), (3, .ref 187), (2, .ref 66), (1, .ref 1), (0, .ref 0)] [] (hp (st_i (st_n (σ) 1 6) 66 0 1)) q) : vz_ev P0 (d + 10) 0 362 [(4, .int (nI n)), (6, .int x_b), (5, .int x_k), (3, .ref 187), (2, .ref 66), (1, .ref 1), (0, .ref 0)] [] (hp σ) q := by
  refine ev_x (i := .aload_n 1) (len := 1) (p' := 363) (s' := [.ref 1]) rfl rfl rfl ?_
  refine ev_x (i := .aload_n 0) (len := 1) (p' := 364) (s' := [.ref 0, .ref 1]) rfl rfl rfl ?_
  refine ev_x (i := .iload 4) (len := 2) (p' := 366) (s' := [.int (nI n), .ref 0, .ref 1]) rfl rfl rfl ?_
  refine ev_x (i := .iconst 1) (len := 1) (p' := 367) (s' := [.int 1, .int (nI n), .ref 0, .ref 1]) rfl rfl rfl ?_
  refine ev_x (i := .iadd) (len := 1) (p' := 368) (s' := [.int ((nI n) + 1), .ref 0, .ref 1]) rfl rfl rfl ?_
  refine ev_st (st' := [.int (nI (n + 1)), .ref 0, .ref 1]) (congrArg (fun z => Value.int z :: [.ref 0, .ref 1]) (nI_add n 1)) ?_
  refine ev_sg (p' := 369) rfl rfl hs (vp_in_nI (by omega) (by omega)) rfl ?_
  refine ev_st (st' := [.int (xs (n + 1)), .ref 1]) (congrArg (fun z => Value.int (xs z) :: [.ref 1]) (nI_clamp (n := n + 1) (by omega))) ?_
  refine ev_x (i := .aload_n 0) (len := 1) (p' := 370) (s' := [.ref 0, .int (xs (n + 1)), .ref 1]) rfl rfl rfl ?_
  refine ev_x (i := .iload 4) (len := 2) (p' := 372) (s' := [.int (nI n), .ref 0, .int (xs (n + 1)), .ref 1]) rfl rfl rfl ?_
  refine ev_x (i := .iconst 2) (len := 1) (p' := 373) (s' := [.int 2, .int (nI n), .ref 0, .int (xs (n + 1)), .ref 1]) rfl rfl rfl ?_
  refine ev_x (i := .iadd) (len := 1) (p' := 374) (s' := [.int ((nI n) + 2), .ref 0, .int (xs (n + 1)), .ref 1]) rfl rfl rfl ?_
  refine ev_st (st' := [.int (nI (n + 2)), .ref 0, .int (xs (n + 1)), .ref 1]) (congrArg (fun z => Value.int z :: [.ref 0, .int (xs (n + 1)), .ref 1]) (nI_add n 2)) ?_
  refine ev_sg (p' := 375) rfl rfl hs (vp_in_nI (by omega) (by omega)) rfl ?_
  refine ev_st (st' := [.int (xs (n + 2)), .int (xs (n + 1)), .ref 1]) (congrArg (fun z => Value.int (xs z) :: [.int (xs (n + 1)), .ref 1]) (nI_clamp (n := n + 2) (by omega))) ?_
  refine ev_x (i := .aload_n 3) (len := 1) (p' := 376) (s' := [.ref 187, .int (xs (n + 2)), .int (xs (n + 1)), .ref 1]) rfl rfl rfl ?_
  refine ev_callS (d := d + 9) (As := [.ref 1, .int (xs (n + 1)), .int (xs (n + 2)), .ref 187]) rfl rfl rfl (by decide) rfl rfl rfl rfl rfl (lz_250 (d := d + 0) (c_1 := c_1) (c_2 := c_2)) ?_
  refine ev_st (st' := [.int 1]) rfl ?_
  refine ev_pc (pc' := 379) rfl ?_
  refine ev_x (i := .istore 5) (len := 2) (p' := 381) (s' := []) (l' := [(5, .int 1), (4, .int (nI n)), (6, .int x_b), (3, .ref 187), (2, .ref 66), (1, .ref 1), (0, .ref 0)]) rfl rfl rfl ?_
  refine ev_x (i := .aload_n 2) (len := 1) (p' := 382) (s' := [.ref 66]) rfl rfl rfl ?_
  refine ev_x (i := .aload_n 0) (len := 1) (p' := 383) (s' := [.ref 0, .ref 66]) rfl rfl rfl ?_
  refine ev_x (i := .iload 4) (len := 2) (p' := 385) (s' := [.int (nI n), .ref 0, .ref 66]) rfl rfl rfl ?_
  refine ev_x (i := .iconst 1) (len := 1) (p' := 386) (s' := [.int 1, .int (nI n), .ref 0, .ref 66]) rfl rfl rfl ?_
  refine ev_x (i := .iadd) (len := 1) (p' := 387) (s' := [.int ((nI n) + 1), .ref 0, .ref 66]) rfl rfl rfl ?_
  refine ev_st (st' := [.int (nI (n + 1)), .ref 0, .ref 66]) (congrArg (fun z => Value.int z :: [.ref 0, .ref 66]) (nI_add n 1)) ?_
  refine ev_sg (p' := 388) rfl rfl hs (vp_in_nI (by omega) (by omega)) rfl ?_
  refine ev_st (st' := [.int (xs (n + 1)), .ref 66]) (congrArg (fun z => Value.int (xs z) :: [.ref 66]) (nI_clamp (n := n + 1) (by omega))) ?_
  refine ev_x (i := .aload_n 0) (len := 1) (p' := 389) (s' := [.ref 0, .int (xs (n + 1)), .ref 66]) rfl rfl rfl ?_
  refine ev_x (i := .iload 4) (len := 2) (p' := 391) (s' := [.int (nI n), .ref 0, .int (xs (n + 1)), .ref 66]) rfl rfl rfl ?_
  refine ev_x (i := .iconst 2) (len := 1) (p' := 392) (s' := [.int 2, .int (nI n), .ref 0, .int (xs (n + 1)), .ref 66]) rfl rfl rfl ?_
  refine ev_x (i := .iadd) (len := 1) (p' := 393) (s' := [.int ((nI n) + 2), .ref 0, .int (xs (n + 1)), .ref 66]) rfl rfl rfl ?_
  refine ev_st (st' := [.int (nI (n + 2)), .ref 0, .int (xs (n + 1)), .ref 66]) (congrArg (fun z => Value.int z :: [.ref 0, .int (xs (n + 1)), .ref 66]) (nI_add n 2)) ?_
  refine ev_sg (p' := 394) rfl rfl hs (vp_in_nI (by omega) (by omega)) rfl ?_
  refine ev_st (st' := [.int (xs (n + 2)), .int (xs (n + 1)), .ref 66]) (congrArg (fun z => Value.int (xs z) :: [.int (xs (n + 1)), .ref 66]) (nI_clamp (n := n + 2) (by omega))) ?_
  refine ev_cv (d := d + 9) (As := [.int (xs (n + 1)), .int (xs (n + 2))]) (a := 66) (p' := 397) rfl rfl rfl ly_66 rfl rfl rfl rfl rfl rfl rfl (lz_251 (d := d + 8) (c_1 := c_1) (c_2 := c_3)) ?_
  refine ev_st (st' := [.int 0]) rfl ?_
  refine ev_x (i := .istore 6) (len := 2) (p' := 399) (s' := []) (l' := [(6, .int 0), (5, .int 1), (4, .int (nI n)), (3, .ref 187), (2, .ref 66), (1, .ref 1), (0, .ref 0)]) rfl rfl rfl ?_
  refine ev_x (i := .aload_n 2) (len := 1) (p' := 400) (s' := [.ref 66]) rfl rfl rfl ?_
  refine ev_cv (d := d + 9) (As := []) (a := 66) (p' := 403) rfl rfl rfl ly_66 rfl rfl rfl rfl rfl rfl rfl (lz_246 (d := d + 8) (hi_66_0 := rfl)) ?_
  refine ev_st (st' := [.int 1]) rfl ?_
  refine ev_x (i := .iload 5) (len := 2) (p' := 405) (s' := [.int 1, .int 1]) rfl rfl rfl ?_
  refine ev_b2 (t := 410) (p' := 410) rfl rfl rfl (by decide) ?_
  refine ev_x (i := .iload 5) (len := 2) (p' := 412) (s' := [.int 1]) rfl rfl rfl ?_
  refine ev_b0 (t := 427) (p' := 427) rfl rfl rfl (by decide) ?_
  refine ev_x (i := .goto 188) (len := 3) (p' := 615) (s' := []) rfl rfl rfl ?_
  exact k
set_option maxHeartbeats 4000000 in
set_option maxRecDepth 100000 in
/-- GameTextLaw.law([I)Z -/
theorem lw_8m_a1 {d : Nat} {σ : st_S} {x_b x_k : Int32} {q : vz_O × vz_H} {n L : Nat} {xs : Nat → Int32} (hs : gF σ 0 = .inl (0, L, .inl xs)) (hn : n + 6 ≤ L) (hL : L ≤ 3072) (c_1 : ¬ ((xs (n + 1)) < 0)) (c_2 : ¬ ((σ.1 52 10) ≤ (xs (n + 1)))) (c_3 : (xs (n + 2)) < 0) (c_4 : ¬ ((σ.1 66 29) ≤ (xs (n + 1)))) (k : vz_ev P0 (d + 10) 0 615 [(6, .int 0), (5, .int 1), (4, .int (nI n)), (3, .ref 187), (2, .ref 66), (1, .ref 1), (0, .ref 0)] [] (hp (st_i (st_n (σ) 1 6) 66 0 1)) q) : vz_ev P0 (d + 10) 0 362 [(4, .int (nI n)), (6, .int x_b), (5, .int x_k), (3, .ref 187), (2, .ref 66), (1, .ref 1), (0, .ref 0)] [] (hp σ) q := by
  refine ev_x (i := .aload_n 1) (len := 1) (p' := 363) (s' := [.ref 1]) rfl rfl rfl ?_
  refine ev_x (i := .aload_n 0) (len := 1) (p' := 364) (s' := [.ref 0, .ref 1]) rfl rfl rfl ?_
  refine ev_x (i := .iload 4) (len := 2) (p' := 366) (s' := [.int (nI n), .ref 0, .ref 1]) rfl rfl rfl ?_
  refine ev_x (i := .iconst 1) (len := 1) (p' := 367) (s' := [.int 1, .int (nI n), .ref 0, .ref 1]) rfl rfl rfl ?_
  refine ev_x (i := .iadd) (len := 1) (p' := 368) (s' := [.int ((nI n) + 1), .ref 0, .ref 1]) rfl rfl rfl ?_
  refine ev_st (st' := [.int (nI (n + 1)), .ref 0, .ref 1]) (congrArg (fun z => Value.int z :: [.ref 0, .ref 1]) (nI_add n 1)) ?_
  refine ev_sg (p' := 369) rfl rfl hs (vp_in_nI (by omega) (by omega)) rfl ?_
  refine ev_st (st' := [.int (xs (n + 1)), .ref 1]) (congrArg (fun z => Value.int (xs z) :: [.ref 1]) (nI_clamp (n := n + 1) (by omega))) ?_
  refine ev_x (i := .aload_n 0) (len := 1) (p' := 370) (s' := [.ref 0, .int (xs (n + 1)), .ref 1]) rfl rfl rfl ?_
  refine ev_x (i := .iload 4) (len := 2) (p' := 372) (s' := [.int (nI n), .ref 0, .int (xs (n + 1)), .ref 1]) rfl rfl rfl ?_
  refine ev_x (i := .iconst 2) (len := 1) (p' := 373) (s' := [.int 2, .int (nI n), .ref 0, .int (xs (n + 1)), .ref 1]) rfl rfl rfl ?_
  refine ev_x (i := .iadd) (len := 1) (p' := 374) (s' := [.int ((nI n) + 2), .ref 0, .int (xs (n + 1)), .ref 1]) rfl rfl rfl ?_
  refine ev_st (st' := [.int (nI (n + 2)), .ref 0, .int (xs (n + 1)), .ref 1]) (congrArg (fun z => Value.int z :: [.ref 0, .int (xs (n + 1)), .ref 1]) (nI_add n 2)) ?_
  refine ev_sg (p' := 375) rfl rfl hs (vp_in_nI (by omega) (by omega)) rfl ?_
  refine ev_st (st' := [.int (xs (n + 2)), .int (xs (n + 1)), .ref 1]) (congrArg (fun z => Value.int (xs z) :: [.int (xs (n + 1)), .ref 1]) (nI_clamp (n := n + 2) (by omega))) ?_
  refine ev_x (i := .aload_n 3) (len := 1) (p' := 376) (s' := [.ref 187, .int (xs (n + 2)), .int (xs (n + 1)), .ref 1]) rfl rfl rfl ?_
  refine ev_callS (d := d + 9) (As := [.ref 1, .int (xs (n + 1)), .int (xs (n + 2)), .ref 187]) rfl rfl rfl (by decide) rfl rfl rfl rfl rfl (lz_256 (d := d + 0) (c_1 := c_1) (c_2 := c_2) (c_3 := c_3)) ?_
  refine ev_st (st' := [.int 1]) rfl ?_
  refine ev_pc (pc' := 379) rfl ?_
  refine ev_x (i := .istore 5) (len := 2) (p' := 381) (s' := []) (l' := [(5, .int 1), (4, .int (nI n)), (6, .int x_b), (3, .ref 187), (2, .ref 66), (1, .ref 1), (0, .ref 0)]) rfl rfl rfl ?_
  refine ev_x (i := .aload_n 2) (len := 1) (p' := 382) (s' := [.ref 66]) rfl rfl rfl ?_
  refine ev_x (i := .aload_n 0) (len := 1) (p' := 383) (s' := [.ref 0, .ref 66]) rfl rfl rfl ?_
  refine ev_x (i := .iload 4) (len := 2) (p' := 385) (s' := [.int (nI n), .ref 0, .ref 66]) rfl rfl rfl ?_
  refine ev_x (i := .iconst 1) (len := 1) (p' := 386) (s' := [.int 1, .int (nI n), .ref 0, .ref 66]) rfl rfl rfl ?_
  refine ev_x (i := .iadd) (len := 1) (p' := 387) (s' := [.int ((nI n) + 1), .ref 0, .ref 66]) rfl rfl rfl ?_
  refine ev_st (st' := [.int (nI (n + 1)), .ref 0, .ref 66]) (congrArg (fun z => Value.int z :: [.ref 0, .ref 66]) (nI_add n 1)) ?_
  refine ev_sg (p' := 388) rfl rfl hs (vp_in_nI (by omega) (by omega)) rfl ?_
  refine ev_st (st' := [.int (xs (n + 1)), .ref 66]) (congrArg (fun z => Value.int (xs z) :: [.ref 66]) (nI_clamp (n := n + 1) (by omega))) ?_
  refine ev_x (i := .aload_n 0) (len := 1) (p' := 389) (s' := [.ref 0, .int (xs (n + 1)), .ref 66]) rfl rfl rfl ?_
  refine ev_x (i := .iload 4) (len := 2) (p' := 391) (s' := [.int (nI n), .ref 0, .int (xs (n + 1)), .ref 66]) rfl rfl rfl ?_
  refine ev_x (i := .iconst 2) (len := 1) (p' := 392) (s' := [.int 2, .int (nI n), .ref 0, .int (xs (n + 1)), .ref 66]) rfl rfl rfl ?_
  refine ev_x (i := .iadd) (len := 1) (p' := 393) (s' := [.int ((nI n) + 2), .ref 0, .int (xs (n + 1)), .ref 66]) rfl rfl rfl ?_
  refine ev_st (st' := [.int (nI (n + 2)), .ref 0, .int (xs (n + 1)), .ref 66]) (congrArg (fun z => Value.int z :: [.ref 0, .int (xs (n + 1)), .ref 66]) (nI_add n 2)) ?_
  refine ev_sg (p' := 394) rfl rfl hs (vp_in_nI (by omega) (by omega)) rfl ?_
  refine ev_st (st' := [.int (xs (n + 2)), .int (xs (n + 1)), .ref 66]) (congrArg (fun z => Value.int (xs z) :: [.int (xs (n + 1)), .ref 66]) (nI_clamp (n := n + 2) (by omega))) ?_
  refine ev_cv (d := d + 9) (As := [.int (xs (n + 1)), .int (xs (n + 2))]) (a := 66) (p' := 397) rfl rfl rfl ly_66 rfl rfl rfl rfl rfl rfl rfl (lz_257 (d := d + 8) (c_1 := c_1) (c_2 := c_4) (c_3 := c_3)) ?_
  refine ev_st (st' := [.int 0]) rfl ?_
  refine ev_x (i := .istore 6) (len := 2) (p' := 399) (s' := []) (l' := [(6, .int 0), (5, .int 1), (4, .int (nI n)), (3, .ref 187), (2, .ref 66), (1, .ref 1), (0, .ref 0)]) rfl rfl rfl ?_
  refine ev_x (i := .aload_n 2) (len := 1) (p' := 400) (s' := [.ref 66]) rfl rfl rfl ?_
  refine ev_cv (d := d + 9) (As := []) (a := 66) (p' := 403) rfl rfl rfl ly_66 rfl rfl rfl rfl rfl rfl rfl (lz_246 (d := d + 8) (hi_66_0 := rfl)) ?_
  refine ev_st (st' := [.int 1]) rfl ?_
  refine ev_x (i := .iload 5) (len := 2) (p' := 405) (s' := [.int 1, .int 1]) rfl rfl rfl ?_
  refine ev_b2 (t := 410) (p' := 410) rfl rfl rfl (by decide) ?_
  refine ev_x (i := .iload 5) (len := 2) (p' := 412) (s' := [.int 1]) rfl rfl rfl ?_
  refine ev_b0 (t := 427) (p' := 427) rfl rfl rfl (by decide) ?_
  refine ev_x (i := .goto 188) (len := 3) (p' := 615) (s' := []) rfl rfl rfl ?_
  exact k
set_option maxHeartbeats 4000000 in
set_option maxRecDepth 100000 in
/-- GameTextLaw.law([I)Z -/
theorem lw_8h_a1 {d : Nat} {σ : st_S} {x_b x_k : Int32} {q : vz_O × vz_H} {n L : Nat} {xs : Nat → Int32} (hs : gF σ 0 = .inl (0, L, .inl xs)) (hn : n + 6 ≤ L) (hL : L ≤ 3072) (hr_66_9 : σ.2.2.1 66 9 = 79) (c_1 : ¬ ((xs (n + 1)) < 0)) (c_2 : ¬ ((σ.1 52 10) ≤ (xs (n + 1)))) (c_3 : ¬ ((xs (n + 2)) < 0)) (c_4 : ¬ ((xs (n + 2)) < (σ.1 52 9))) (c_5 : ¬ ((σ.1 66 29) ≤ (xs (n + 1)))) (c_6 : ¬ ((xs (n + 2)) < (σ.1 79 12))) (k : vz_ev P0 (d + 10) 0 615 [(6, .int 0), (5, .int 1), (4, .int (nI n)), (3, .ref 187), (2, .ref 66), (1, .ref 1), (0, .ref 0)] [] (hp (st_i (st_n (σ) 1 6) 66 0 1)) q) : vz_ev P0 (d + 10) 0 362 [(4, .int (nI n)), (6, .int x_b), (5, .int x_k), (3, .ref 187), (2, .ref 66), (1, .ref 1), (0, .ref 0)] [] (hp σ) q := by
  refine ev_x (i := .aload_n 1) (len := 1) (p' := 363) (s' := [.ref 1]) rfl rfl rfl ?_
  refine ev_x (i := .aload_n 0) (len := 1) (p' := 364) (s' := [.ref 0, .ref 1]) rfl rfl rfl ?_
  refine ev_x (i := .iload 4) (len := 2) (p' := 366) (s' := [.int (nI n), .ref 0, .ref 1]) rfl rfl rfl ?_
  refine ev_x (i := .iconst 1) (len := 1) (p' := 367) (s' := [.int 1, .int (nI n), .ref 0, .ref 1]) rfl rfl rfl ?_
  refine ev_x (i := .iadd) (len := 1) (p' := 368) (s' := [.int ((nI n) + 1), .ref 0, .ref 1]) rfl rfl rfl ?_
  refine ev_st (st' := [.int (nI (n + 1)), .ref 0, .ref 1]) (congrArg (fun z => Value.int z :: [.ref 0, .ref 1]) (nI_add n 1)) ?_
  refine ev_sg (p' := 369) rfl rfl hs (vp_in_nI (by omega) (by omega)) rfl ?_
  refine ev_st (st' := [.int (xs (n + 1)), .ref 1]) (congrArg (fun z => Value.int (xs z) :: [.ref 1]) (nI_clamp (n := n + 1) (by omega))) ?_
  refine ev_x (i := .aload_n 0) (len := 1) (p' := 370) (s' := [.ref 0, .int (xs (n + 1)), .ref 1]) rfl rfl rfl ?_
  refine ev_x (i := .iload 4) (len := 2) (p' := 372) (s' := [.int (nI n), .ref 0, .int (xs (n + 1)), .ref 1]) rfl rfl rfl ?_
  refine ev_x (i := .iconst 2) (len := 1) (p' := 373) (s' := [.int 2, .int (nI n), .ref 0, .int (xs (n + 1)), .ref 1]) rfl rfl rfl ?_
  refine ev_x (i := .iadd) (len := 1) (p' := 374) (s' := [.int ((nI n) + 2), .ref 0, .int (xs (n + 1)), .ref 1]) rfl rfl rfl ?_
  refine ev_st (st' := [.int (nI (n + 2)), .ref 0, .int (xs (n + 1)), .ref 1]) (congrArg (fun z => Value.int z :: [.ref 0, .int (xs (n + 1)), .ref 1]) (nI_add n 2)) ?_
  refine ev_sg (p' := 375) rfl rfl hs (vp_in_nI (by omega) (by omega)) rfl ?_
  refine ev_st (st' := [.int (xs (n + 2)), .int (xs (n + 1)), .ref 1]) (congrArg (fun z => Value.int (xs z) :: [.int (xs (n + 1)), .ref 1]) (nI_clamp (n := n + 2) (by omega))) ?_
  refine ev_x (i := .aload_n 3) (len := 1) (p' := 376) (s' := [.ref 187, .int (xs (n + 2)), .int (xs (n + 1)), .ref 1]) rfl rfl rfl ?_
  refine ev_callS (d := d + 9) (As := [.ref 1, .int (xs (n + 1)), .int (xs (n + 2)), .ref 187]) rfl rfl rfl (by decide) rfl rfl rfl rfl rfl (lz_262 (d := d + 0) (c_1 := c_1) (c_2 := c_2) (c_3 := c_3) (c_4 := c_4)) ?_
  refine ev_st (st' := [.int 1]) rfl ?_
  refine ev_pc (pc' := 379) rfl ?_
  refine ev_x (i := .istore 5) (len := 2) (p' := 381) (s' := []) (l' := [(5, .int 1), (4, .int (nI n)), (6, .int x_b), (3, .ref 187), (2, .ref 66), (1, .ref 1), (0, .ref 0)]) rfl rfl rfl ?_
  refine ev_x (i := .aload_n 2) (len := 1) (p' := 382) (s' := [.ref 66]) rfl rfl rfl ?_
  refine ev_x (i := .aload_n 0) (len := 1) (p' := 383) (s' := [.ref 0, .ref 66]) rfl rfl rfl ?_
  refine ev_x (i := .iload 4) (len := 2) (p' := 385) (s' := [.int (nI n), .ref 0, .ref 66]) rfl rfl rfl ?_
  refine ev_x (i := .iconst 1) (len := 1) (p' := 386) (s' := [.int 1, .int (nI n), .ref 0, .ref 66]) rfl rfl rfl ?_
  refine ev_x (i := .iadd) (len := 1) (p' := 387) (s' := [.int ((nI n) + 1), .ref 0, .ref 66]) rfl rfl rfl ?_
  refine ev_st (st' := [.int (nI (n + 1)), .ref 0, .ref 66]) (congrArg (fun z => Value.int z :: [.ref 0, .ref 66]) (nI_add n 1)) ?_
  refine ev_sg (p' := 388) rfl rfl hs (vp_in_nI (by omega) (by omega)) rfl ?_
  refine ev_st (st' := [.int (xs (n + 1)), .ref 66]) (congrArg (fun z => Value.int (xs z) :: [.ref 66]) (nI_clamp (n := n + 1) (by omega))) ?_
  refine ev_x (i := .aload_n 0) (len := 1) (p' := 389) (s' := [.ref 0, .int (xs (n + 1)), .ref 66]) rfl rfl rfl ?_
  refine ev_x (i := .iload 4) (len := 2) (p' := 391) (s' := [.int (nI n), .ref 0, .int (xs (n + 1)), .ref 66]) rfl rfl rfl ?_
  refine ev_x (i := .iconst 2) (len := 1) (p' := 392) (s' := [.int 2, .int (nI n), .ref 0, .int (xs (n + 1)), .ref 66]) rfl rfl rfl ?_
  refine ev_x (i := .iadd) (len := 1) (p' := 393) (s' := [.int ((nI n) + 2), .ref 0, .int (xs (n + 1)), .ref 66]) rfl rfl rfl ?_
  refine ev_st (st' := [.int (nI (n + 2)), .ref 0, .int (xs (n + 1)), .ref 66]) (congrArg (fun z => Value.int z :: [.ref 0, .int (xs (n + 1)), .ref 66]) (nI_add n 2)) ?_
  refine ev_sg (p' := 394) rfl rfl hs (vp_in_nI (by omega) (by omega)) rfl ?_
  refine ev_st (st' := [.int (xs (n + 2)), .int (xs (n + 1)), .ref 66]) (congrArg (fun z => Value.int (xs z) :: [.int (xs (n + 1)), .ref 66]) (nI_clamp (n := n + 2) (by omega))) ?_
  refine ev_cv (d := d + 9) (As := [.int (xs (n + 1)), .int (xs (n + 2))]) (a := 66) (p' := 397) rfl rfl rfl ly_66 rfl rfl rfl rfl rfl rfl rfl (lz_263 (d := d + 8) (hr_66_9 := hr_66_9) (c_1 := c_1) (c_2 := c_5) (c_3 := c_3) (c_4 := c_6)) ?_
  refine ev_st (st' := [.int 0]) rfl ?_
  refine ev_x (i := .istore 6) (len := 2) (p' := 399) (s' := []) (l' := [(6, .int 0), (5, .int 1), (4, .int (nI n)), (3, .ref 187), (2, .ref 66), (1, .ref 1), (0, .ref 0)]) rfl rfl rfl ?_
  refine ev_x (i := .aload_n 2) (len := 1) (p' := 400) (s' := [.ref 66]) rfl rfl rfl ?_
  refine ev_cv (d := d + 9) (As := []) (a := 66) (p' := 403) rfl rfl rfl ly_66 rfl rfl rfl rfl rfl rfl rfl (lz_246 (d := d + 8) (hi_66_0 := rfl)) ?_
  refine ev_st (st' := [.int 1]) rfl ?_
  refine ev_x (i := .iload 5) (len := 2) (p' := 405) (s' := [.int 1, .int 1]) rfl rfl rfl ?_
  refine ev_b2 (t := 410) (p' := 410) rfl rfl rfl (by decide) ?_
  refine ev_x (i := .iload 5) (len := 2) (p' := 412) (s' := [.int 1]) rfl rfl rfl ?_
  refine ev_b0 (t := 427) (p' := 427) rfl rfl rfl (by decide) ?_
  refine ev_x (i := .goto 188) (len := 3) (p' := 615) (s' := []) rfl rfl rfl ?_
  exact k
set_option maxHeartbeats 4000000 in
set_option maxRecDepth 100000 in
/-- GameTextLaw.law([I)Z -/
theorem lw_8o_a1 {d : Nat} {σ : st_S} {x_b x_k : Int32} {q : vz_O × vz_H} {n L : Nat} {xs : Nat → Int32} (hs : gF σ 0 = .inl (0, L, .inl xs)) (hn : n + 6 ≤ L) (hL : L ≤ 3072) (hr_66_9 : σ.2.2.1 66 9 = 79) (c_1 : ¬ ((xs (n + 1)) < 0)) (c_2 : ¬ ((σ.1 52 10) ≤ (xs (n + 1)))) (c_3 : ¬ ((xs (n + 2)) < 0)) (c_4 : (xs (n + 2)) < (σ.1 52 9)) (c_5 : vp_in (((xs (n + 1)) * 12) + (xs (n + 2))) (gN σ 54)) (c_6 : vp_in 0 (gN σ 187)) (c_7 : ¬ ((σ.1 66 29) ≤ (xs (n + 1)))) (c_8 : (xs (n + 2)) < (σ.1 79 12)) (c_9 : vp_in ((12 * (xs (n + 1))) + (xs (n + 2))) (gN σ 171)) (c_10 : (lg_cmp ((gE σ 54 (((((xs (n + 1)) * 12) + (xs (n + 2)))).toNatClampNeg)) : Int32).toInt64 ((gE σ 171 ((((12 * (xs (n + 1))) + (xs (n + 2)))).toNatClampNeg)) : Int32).toInt64) = 0) (k : vz_ev P0 (d + 4) 0 615 [(6, .int (gE σ 171 ((((12 * (xs (n + 1))) + (xs (n + 2)))).toNatClampNeg))), (5, .int 0), (4, .int (nI n)), (3, .ref 187), (2, .ref 66), (1, .ref 1), (0, .ref 0)] [] (hp (st_i (st_E (σ) 187 0 ((gE σ 54 (((((xs (n + 1)) * 12) + (xs (n + 2)))).toNatClampNeg)) : Int32).toInt64) 66 0 0)) q) : vz_ev P0 (d + 4) 0 362 [(4, .int (nI n)), (6, .int x_b), (5, .int x_k), (3, .ref 187), (2, .ref 66), (1, .ref 1), (0, .ref 0)] [] (hp σ) q := by
  refine ev_x (i := .aload_n 1) (len := 1) (p' := 363) (s' := [.ref 1]) rfl rfl rfl ?_
  refine ev_x (i := .aload_n 0) (len := 1) (p' := 364) (s' := [.ref 0, .ref 1]) rfl rfl rfl ?_
  refine ev_x (i := .iload 4) (len := 2) (p' := 366) (s' := [.int (nI n), .ref 0, .ref 1]) rfl rfl rfl ?_
  refine ev_x (i := .iconst 1) (len := 1) (p' := 367) (s' := [.int 1, .int (nI n), .ref 0, .ref 1]) rfl rfl rfl ?_
  refine ev_x (i := .iadd) (len := 1) (p' := 368) (s' := [.int ((nI n) + 1), .ref 0, .ref 1]) rfl rfl rfl ?_
  refine ev_st (st' := [.int (nI (n + 1)), .ref 0, .ref 1]) (congrArg (fun z => Value.int z :: [.ref 0, .ref 1]) (nI_add n 1)) ?_
  refine ev_sg (p' := 369) rfl rfl hs (vp_in_nI (by omega) (by omega)) rfl ?_
  refine ev_st (st' := [.int (xs (n + 1)), .ref 1]) (congrArg (fun z => Value.int (xs z) :: [.ref 1]) (nI_clamp (n := n + 1) (by omega))) ?_
  refine ev_x (i := .aload_n 0) (len := 1) (p' := 370) (s' := [.ref 0, .int (xs (n + 1)), .ref 1]) rfl rfl rfl ?_
  refine ev_x (i := .iload 4) (len := 2) (p' := 372) (s' := [.int (nI n), .ref 0, .int (xs (n + 1)), .ref 1]) rfl rfl rfl ?_
  refine ev_x (i := .iconst 2) (len := 1) (p' := 373) (s' := [.int 2, .int (nI n), .ref 0, .int (xs (n + 1)), .ref 1]) rfl rfl rfl ?_
  refine ev_x (i := .iadd) (len := 1) (p' := 374) (s' := [.int ((nI n) + 2), .ref 0, .int (xs (n + 1)), .ref 1]) rfl rfl rfl ?_
  refine ev_st (st' := [.int (nI (n + 2)), .ref 0, .int (xs (n + 1)), .ref 1]) (congrArg (fun z => Value.int z :: [.ref 0, .int (xs (n + 1)), .ref 1]) (nI_add n 2)) ?_
  refine ev_sg (p' := 375) rfl rfl hs (vp_in_nI (by omega) (by omega)) rfl ?_
  refine ev_st (st' := [.int (xs (n + 2)), .int (xs (n + 1)), .ref 1]) (congrArg (fun z => Value.int (xs z) :: [.int (xs (n + 1)), .ref 1]) (nI_clamp (n := n + 2) (by omega))) ?_
  refine ev_x (i := .aload_n 3) (len := 1) (p' := 376) (s' := [.ref 187, .int (xs (n + 2)), .int (xs (n + 1)), .ref 1]) rfl rfl rfl ?_
  refine ev_callS (d := d + 3) (As := [.ref 1, .int (xs (n + 1)), .int (xs (n + 2)), .ref 187]) rfl rfl rfl (by decide) rfl rfl rfl rfl rfl (lz_268 (d := d + 0) (c_1 := c_1) (c_2 := c_2) (c_3 := c_3) (c_4 := c_4) (c_5 := c_5) (c_6 := c_6)) ?_
  refine ev_st (st' := [.int 0]) rfl ?_
  refine ev_pc (pc' := 379) rfl ?_
  refine ev_x (i := .istore 5) (len := 2) (p' := 381) (s' := []) (l' := [(5, .int 0), (4, .int (nI n)), (6, .int x_b), (3, .ref 187), (2, .ref 66), (1, .ref 1), (0, .ref 0)]) rfl rfl rfl ?_
  refine ev_x (i := .aload_n 2) (len := 1) (p' := 382) (s' := [.ref 66]) rfl rfl rfl ?_
  refine ev_x (i := .aload_n 0) (len := 1) (p' := 383) (s' := [.ref 0, .ref 66]) rfl rfl rfl ?_
  refine ev_x (i := .iload 4) (len := 2) (p' := 385) (s' := [.int (nI n), .ref 0, .ref 66]) rfl rfl rfl ?_
  refine ev_x (i := .iconst 1) (len := 1) (p' := 386) (s' := [.int 1, .int (nI n), .ref 0, .ref 66]) rfl rfl rfl ?_
  refine ev_x (i := .iadd) (len := 1) (p' := 387) (s' := [.int ((nI n) + 1), .ref 0, .ref 66]) rfl rfl rfl ?_
  refine ev_st (st' := [.int (nI (n + 1)), .ref 0, .ref 66]) (congrArg (fun z => Value.int z :: [.ref 0, .ref 66]) (nI_add n 1)) ?_
  refine ev_sg (p' := 388) rfl rfl hs (vp_in_nI (by omega) (by omega)) rfl ?_
  refine ev_st (st' := [.int (xs (n + 1)), .ref 66]) (congrArg (fun z => Value.int (xs z) :: [.ref 66]) (nI_clamp (n := n + 1) (by omega))) ?_
  refine ev_x (i := .aload_n 0) (len := 1) (p' := 389) (s' := [.ref 0, .int (xs (n + 1)), .ref 66]) rfl rfl rfl ?_
  refine ev_x (i := .iload 4) (len := 2) (p' := 391) (s' := [.int (nI n), .ref 0, .int (xs (n + 1)), .ref 66]) rfl rfl rfl ?_
  refine ev_x (i := .iconst 2) (len := 1) (p' := 392) (s' := [.int 2, .int (nI n), .ref 0, .int (xs (n + 1)), .ref 66]) rfl rfl rfl ?_
  refine ev_x (i := .iadd) (len := 1) (p' := 393) (s' := [.int ((nI n) + 2), .ref 0, .int (xs (n + 1)), .ref 66]) rfl rfl rfl ?_
  refine ev_st (st' := [.int (nI (n + 2)), .ref 0, .int (xs (n + 1)), .ref 66]) (congrArg (fun z => Value.int z :: [.ref 0, .int (xs (n + 1)), .ref 66]) (nI_add n 2)) ?_
  refine ev_sg (p' := 394) rfl rfl hs (vp_in_nI (by omega) (by omega)) rfl ?_
  refine ev_st (st' := [.int (xs (n + 2)), .int (xs (n + 1)), .ref 66]) (congrArg (fun z => Value.int (xs z) :: [.int (xs (n + 1)), .ref 66]) (nI_clamp (n := n + 2) (by omega))) ?_
  refine ev_cv (d := d + 3) (As := [.int (xs (n + 1)), .int (xs (n + 2))]) (a := 66) (p' := 397) rfl rfl rfl ly_66 rfl rfl rfl rfl rfl rfl rfl (lz_269 (d := d + 2) (hr_66_9 := hr_66_9) (c_1 := c_1) (c_2 := c_7) (c_3 := c_3) (c_4 := c_8) (c_5 := c_9)) ?_
  refine ev_st (st' := [.int (gE σ 171 ((((12 * (xs (n + 1))) + (xs (n + 2)))).toNatClampNeg))]) rfl ?_
  refine ev_x (i := .istore 6) (len := 2) (p' := 399) (s' := []) (l' := [(6, .int (gE σ 171 ((((12 * (xs (n + 1))) + (xs (n + 2)))).toNatClampNeg))), (5, .int 0), (4, .int (nI n)), (3, .ref 187), (2, .ref 66), (1, .ref 1), (0, .ref 0)]) rfl rfl rfl ?_
  refine ev_x (i := .aload_n 2) (len := 1) (p' := 400) (s' := [.ref 66]) rfl rfl rfl ?_
  refine ev_cv (d := d + 3) (As := []) (a := 66) (p' := 403) rfl rfl rfl ly_66 rfl rfl rfl rfl rfl rfl rfl (lz_270 (d := d + 2) (hi_66_0 := rfl)) ?_
  refine ev_st (st' := [.int 0]) rfl ?_
  refine ev_x (i := .iload 5) (len := 2) (p' := 405) (s' := [.int 0, .int 0]) rfl rfl rfl ?_
  refine ev_b2 (t := 410) (p' := 410) rfl rfl rfl (by decide) ?_
  refine ev_x (i := .iload 5) (len := 2) (p' := 412) (s' := [.int 0]) rfl rfl rfl ?_
  refine ev_b0 (t := 427) (p' := 415) rfl rfl rfl (by decide) ?_
  refine ev_x (i := .aload_n 3) (len := 1) (p' := 416) (s' := [.ref 187]) rfl rfl rfl ?_
  refine ev_x (i := .iconst 0) (len := 1) (p' := 417) (s' := [.int 0, .ref 187]) rfl rfl rfl ?_
  refine ev_gL (p' := 418) (v := ((gE σ 54 (((((xs (n + 1)) * 12) + (xs (n + 2)))).toNatClampNeg)) : Int32).toInt64) rfl rfl ly_187 rfl c_6 rfl ?_
  refine ev_x (i := .iload 6) (len := 2) (p' := 420) (s' := [.int (gE σ 171 ((((12 * (xs (n + 1))) + (xs (n + 2)))).toNatClampNeg)), .long ((gE σ 54 (((((xs (n + 1)) * 12) + (xs (n + 2)))).toNatClampNeg)) : Int32).toInt64]) rfl rfl rfl ?_
  refine ev_x (i := .i2l) (len := 1) (p' := 421) (s' := [.long ((gE σ 171 ((((12 * (xs (n + 1))) + (xs (n + 2)))).toNatClampNeg)) : Int32).toInt64, .long ((gE σ 54 (((((xs (n + 1)) * 12) + (xs (n + 2)))).toNatClampNeg)) : Int32).toInt64]) rfl rfl rfl ?_
  refine ev_x (i := .lcmp) (len := 1) (p' := 422) (s' := [.int (lg_cmp ((gE σ 54 (((((xs (n + 1)) * 12) + (xs (n + 2)))).toNatClampNeg)) : Int32).toInt64 ((gE σ 171 ((((12 * (xs (n + 1))) + (xs (n + 2)))).toNatClampNeg)) : Int32).toInt64)]) rfl rfl rfl ?_
  refine ev_b0 (t := 427) (p' := 427) rfl rfl rfl (if_pos c_10) ?_
  refine ev_x (i := .goto 188) (len := 3) (p' := 615) (s' := []) rfl rfl rfl ?_
  exact k
set_option maxHeartbeats 4000000 in
set_option maxRecDepth 100000 in
/-- GameTextLaw.law([I)Z -/
theorem lw_4n_a1 {d : Nat} {σ : st_S} {x_b x_k : Int32} {q : vz_O × vz_H} {n L : Nat} {xs : Nat → Int32} (hs : gF σ 0 = .inl (0, L, .inl xs)) (hn : n + 6 ≤ L) (hL : L ≤ 3072) (c_1 : ¬ (¬ (σ.1 1 7) = 0)) (c_2 : ¬ (¬ (σ.1 66 11) = 0)) (k : vz_ev P0 (d + 2) 0 615 [(4, .int (nI n)), (6, .int x_b), (5, .int x_k), (3, .ref 187), (2, .ref 66), (1, .ref 1), (0, .ref 0)] [] (hp (st_i (σ) 66 0 0)) q) : vz_ev P0 (d + 2) 0 267 [(4, .int (nI n)), (6, .int x_b), (5, .int x_k), (3, .ref 187), (2, .ref 66), (1, .ref 1), (0, .ref 0)] [] (hp σ) q := by
  refine ev_x (i := .aload_n 1) (len := 1) (p' := 268) (s' := [.ref 1]) rfl rfl rfl ?_
  refine ev_x (i := .aload_n 0) (len := 1) (p' := 269) (s' := [.ref 0, .ref 1]) rfl rfl rfl ?_
  refine ev_x (i := .iload 4) (len := 2) (p' := 271) (s' := [.int (nI n), .ref 0, .ref 1]) rfl rfl rfl ?_
  refine ev_x (i := .iconst 1) (len := 1) (p' := 272) (s' := [.int 1, .int (nI n), .ref 0, .ref 1]) rfl rfl rfl ?_
  refine ev_x (i := .iadd) (len := 1) (p' := 273) (s' := [.int ((nI n) + 1), .ref 0, .ref 1]) rfl rfl rfl ?_
  refine ev_st (st' := [.int (nI (n + 1)), .ref 0, .ref 1]) (congrArg (fun z => Value.int z :: [.ref 0, .ref 1]) (nI_add n 1)) ?_
  refine ev_sg (p' := 274) rfl rfl hs (vp_in_nI (by omega) (by omega)) rfl ?_
  refine ev_st (st' := [.int (xs (n + 1)), .ref 1]) (congrArg (fun z => Value.int (xs z) :: [.ref 1]) (nI_clamp (n := n + 1) (by omega))) ?_
  refine ev_cv (d := d + 1) (As := [.int (xs (n + 1))]) (a := 1) (p' := 277) rfl rfl rfl ly_1 rfl rfl rfl rfl rfl rfl rfl (lz_272 (d := d + 0) (c_1 := c_1)) ?_
  refine ev_st (st' := [.int (-1)]) rfl ?_
  refine ev_x (i := .aload_n 2) (len := 1) (p' := 278) (s' := [.ref 66, .int (-1)]) rfl rfl rfl ?_
  refine ev_x (i := .aload_n 0) (len := 1) (p' := 279) (s' := [.ref 0, .ref 66, .int (-1)]) rfl rfl rfl ?_
  refine ev_x (i := .iload 4) (len := 2) (p' := 281) (s' := [.int (nI n), .ref 0, .ref 66, .int (-1)]) rfl rfl rfl ?_
  refine ev_x (i := .iconst 1) (len := 1) (p' := 282) (s' := [.int 1, .int (nI n), .ref 0, .ref 66, .int (-1)]) rfl rfl rfl ?_
  refine ev_x (i := .iadd) (len := 1) (p' := 283) (s' := [.int ((nI n) + 1), .ref 0, .ref 66, .int (-1)]) rfl rfl rfl ?_
  refine ev_st (st' := [.int (nI (n + 1)), .ref 0, .ref 66, .int (-1)]) (congrArg (fun z => Value.int z :: [.ref 0, .ref 66, .int (-1)]) (nI_add n 1)) ?_
  refine ev_sg (p' := 284) rfl rfl hs (vp_in_nI (by omega) (by omega)) rfl ?_
  refine ev_st (st' := [.int (xs (n + 1)), .ref 66, .int (-1)]) (congrArg (fun z => Value.int (xs z) :: [.ref 66, .int (-1)]) (nI_clamp (n := n + 1) (by omega))) ?_
  refine ev_cv (d := d + 1) (As := [.int (xs (n + 1))]) (a := 66) (p' := 287) rfl rfl rfl ly_66 rfl rfl rfl rfl rfl rfl rfl (lz_273 (d := d + 0) (c_1 := c_2)) ?_
  refine ev_st (st' := [.int (-1), .int (-1)]) rfl ?_
  refine ev_b2 (t := 615) (p' := 615) rfl rfl rfl (by decide) ?_
  exact k
set_option maxHeartbeats 4000000 in
set_option maxRecDepth 100000 in
/-- GameTextLaw.law([I)Z -/
theorem lw_40_a1 {d : Nat} {σ : st_S} {x_b x_k : Int32} {q : vz_O × vz_H} {n L : Nat} {xs : Nat → Int32} (hs : gF σ 0 = .inl (0, L, .inl xs)) (hn : n + 6 ≤ L) (hL : L ≤ 3072) (hr_1_5 : σ.2.2.1 1 5 = 4) (hr_66_9 : σ.2.2.1 66 9 = 79) (c_1 : ¬ (σ.1 1 7) = 0) (c_2 : (xs (n + 1)) = 0) (c_3 : ¬ (σ.1 66 11) = 0) (c_4 : ¬ (¬ (xs (n + 1)) = 0)) (c_5 : (σ.1 4 7) = (σ.1 79 12)) (k : vz_ev P0 (d + 2) 0 615 [(4, .int (nI n)), (6, .int x_b), (5, .int x_k), (3, .ref 187), (2, .ref 66), (1, .ref 1), (0, .ref 0)] [] (hp (st_i (σ) 66 0 0)) q) : vz_ev P0 (d + 2) 0 267 [(4, .int (nI n)), (6, .int x_b), (5, .int x_k), (3, .ref 187), (2, .ref 66), (1, .ref 1), (0, .ref 0)] [] (hp σ) q := by
  refine ev_x (i := .aload_n 1) (len := 1) (p' := 268) (s' := [.ref 1]) rfl rfl rfl ?_
  refine ev_x (i := .aload_n 0) (len := 1) (p' := 269) (s' := [.ref 0, .ref 1]) rfl rfl rfl ?_
  refine ev_x (i := .iload 4) (len := 2) (p' := 271) (s' := [.int (nI n), .ref 0, .ref 1]) rfl rfl rfl ?_
  refine ev_x (i := .iconst 1) (len := 1) (p' := 272) (s' := [.int 1, .int (nI n), .ref 0, .ref 1]) rfl rfl rfl ?_
  refine ev_x (i := .iadd) (len := 1) (p' := 273) (s' := [.int ((nI n) + 1), .ref 0, .ref 1]) rfl rfl rfl ?_
  refine ev_st (st' := [.int (nI (n + 1)), .ref 0, .ref 1]) (congrArg (fun z => Value.int z :: [.ref 0, .ref 1]) (nI_add n 1)) ?_
  refine ev_sg (p' := 274) rfl rfl hs (vp_in_nI (by omega) (by omega)) rfl ?_
  refine ev_st (st' := [.int (xs (n + 1)), .ref 1]) (congrArg (fun z => Value.int (xs z) :: [.ref 1]) (nI_clamp (n := n + 1) (by omega))) ?_
  refine ev_cv (d := d + 1) (As := [.int (xs (n + 1))]) (a := 1) (p' := 277) rfl rfl rfl ly_1 rfl rfl rfl rfl rfl rfl rfl (lz_275 (d := d + 0) (hr_1_5 := hr_1_5) (c_1 := c_1) (c_2 := c_2)) ?_
  refine ev_st (st' := [.int (σ.1 4 7)]) rfl ?_
  refine ev_x (i := .aload_n 2) (len := 1) (p' := 278) (s' := [.ref 66, .int (σ.1 4 7)]) rfl rfl rfl ?_
  refine ev_x (i := .aload_n 0) (len := 1) (p' := 279) (s' := [.ref 0, .ref 66, .int (σ.1 4 7)]) rfl rfl rfl ?_
  refine ev_x (i := .iload 4) (len := 2) (p' := 281) (s' := [.int (nI n), .ref 0, .ref 66, .int (σ.1 4 7)]) rfl rfl rfl ?_
  refine ev_x (i := .iconst 1) (len := 1) (p' := 282) (s' := [.int 1, .int (nI n), .ref 0, .ref 66, .int (σ.1 4 7)]) rfl rfl rfl ?_
  refine ev_x (i := .iadd) (len := 1) (p' := 283) (s' := [.int ((nI n) + 1), .ref 0, .ref 66, .int (σ.1 4 7)]) rfl rfl rfl ?_
  refine ev_st (st' := [.int (nI (n + 1)), .ref 0, .ref 66, .int (σ.1 4 7)]) (congrArg (fun z => Value.int z :: [.ref 0, .ref 66, .int (σ.1 4 7)]) (nI_add n 1)) ?_
  refine ev_sg (p' := 284) rfl rfl hs (vp_in_nI (by omega) (by omega)) rfl ?_
  refine ev_st (st' := [.int (xs (n + 1)), .ref 66, .int (σ.1 4 7)]) (congrArg (fun z => Value.int (xs z) :: [.ref 66, .int (σ.1 4 7)]) (nI_clamp (n := n + 1) (by omega))) ?_
  refine ev_cv (d := d + 1) (As := [.int (xs (n + 1))]) (a := 66) (p' := 287) rfl rfl rfl ly_66 rfl rfl rfl rfl rfl rfl rfl (lz_276 (d := d + 0) (hr_66_9 := hr_66_9) (c_1 := c_3) (c_2 := c_4)) ?_
  refine ev_st (st' := [.int (σ.1 79 12), .int (σ.1 4 7)]) rfl ?_
  refine ev_b2 (t := 615) (p' := 615) rfl rfl rfl (if_pos c_5) ?_
  exact k
set_option maxHeartbeats 4000000 in
set_option maxRecDepth 100000 in
/-- GameTextLaw.law([I)Z -/
theorem lw_41_a1 {d : Nat} {σ : st_S} {x_b x_k : Int32} {q : vz_O × vz_H} {n L : Nat} {xs : Nat → Int32} (hs : gF σ 0 = .inl (0, L, .inl xs)) (hn : n + 6 ≤ L) (hL : L ≤ 3072) (hr_1_5 : σ.2.2.1 1 5 = 4) (hr_66_9 : σ.2.2.1 66 9 = 79) (c_1 : ¬ (σ.1 1 7) = 0) (c_2 : (xs (n + 1)) = 1) (c_3 : ¬ (σ.1 66 11) = 0) (c_4 : ¬ (xs (n + 1)) = 0) (c_5 : ¬ (¬ (xs (n + 1)) = 1)) (c_6 : (σ.1 4 8) = (σ.1 79 6)) (k : vz_ev P0 (d + 2) 0 615 [(4, .int (nI n)), (6, .int x_b), (5, .int x_k), (3, .ref 187), (2, .ref 66), (1, .ref 1), (0, .ref 0)] [] (hp (st_i (σ) 66 0 0)) q) : vz_ev P0 (d + 2) 0 267 [(4, .int (nI n)), (6, .int x_b), (5, .int x_k), (3, .ref 187), (2, .ref 66), (1, .ref 1), (0, .ref 0)] [] (hp σ) q := by
  refine ev_x (i := .aload_n 1) (len := 1) (p' := 268) (s' := [.ref 1]) rfl rfl rfl ?_
  refine ev_x (i := .aload_n 0) (len := 1) (p' := 269) (s' := [.ref 0, .ref 1]) rfl rfl rfl ?_
  refine ev_x (i := .iload 4) (len := 2) (p' := 271) (s' := [.int (nI n), .ref 0, .ref 1]) rfl rfl rfl ?_
  refine ev_x (i := .iconst 1) (len := 1) (p' := 272) (s' := [.int 1, .int (nI n), .ref 0, .ref 1]) rfl rfl rfl ?_
  refine ev_x (i := .iadd) (len := 1) (p' := 273) (s' := [.int ((nI n) + 1), .ref 0, .ref 1]) rfl rfl rfl ?_
  refine ev_st (st' := [.int (nI (n + 1)), .ref 0, .ref 1]) (congrArg (fun z => Value.int z :: [.ref 0, .ref 1]) (nI_add n 1)) ?_
  refine ev_sg (p' := 274) rfl rfl hs (vp_in_nI (by omega) (by omega)) rfl ?_
  refine ev_st (st' := [.int (xs (n + 1)), .ref 1]) (congrArg (fun z => Value.int (xs z) :: [.ref 1]) (nI_clamp (n := n + 1) (by omega))) ?_
  refine ev_cv (d := d + 1) (As := [.int (xs (n + 1))]) (a := 1) (p' := 277) rfl rfl rfl ly_1 rfl rfl rfl rfl rfl rfl rfl (lz_278 (d := d + 0) (hr_1_5 := hr_1_5) (c_1 := c_1) (c_2 := c_2)) ?_
  refine ev_st (st' := [.int (σ.1 4 8)]) rfl ?_
  refine ev_x (i := .aload_n 2) (len := 1) (p' := 278) (s' := [.ref 66, .int (σ.1 4 8)]) rfl rfl rfl ?_
  refine ev_x (i := .aload_n 0) (len := 1) (p' := 279) (s' := [.ref 0, .ref 66, .int (σ.1 4 8)]) rfl rfl rfl ?_
  refine ev_x (i := .iload 4) (len := 2) (p' := 281) (s' := [.int (nI n), .ref 0, .ref 66, .int (σ.1 4 8)]) rfl rfl rfl ?_
  refine ev_x (i := .iconst 1) (len := 1) (p' := 282) (s' := [.int 1, .int (nI n), .ref 0, .ref 66, .int (σ.1 4 8)]) rfl rfl rfl ?_
  refine ev_x (i := .iadd) (len := 1) (p' := 283) (s' := [.int ((nI n) + 1), .ref 0, .ref 66, .int (σ.1 4 8)]) rfl rfl rfl ?_
  refine ev_st (st' := [.int (nI (n + 1)), .ref 0, .ref 66, .int (σ.1 4 8)]) (congrArg (fun z => Value.int z :: [.ref 0, .ref 66, .int (σ.1 4 8)]) (nI_add n 1)) ?_
  refine ev_sg (p' := 284) rfl rfl hs (vp_in_nI (by omega) (by omega)) rfl ?_
  refine ev_st (st' := [.int (xs (n + 1)), .ref 66, .int (σ.1 4 8)]) (congrArg (fun z => Value.int (xs z) :: [.ref 66, .int (σ.1 4 8)]) (nI_clamp (n := n + 1) (by omega))) ?_
  refine ev_cv (d := d + 1) (As := [.int (xs (n + 1))]) (a := 66) (p' := 287) rfl rfl rfl ly_66 rfl rfl rfl rfl rfl rfl rfl (lz_279 (d := d + 0) (hr_66_9 := hr_66_9) (c_1 := c_3) (c_2 := c_4) (c_3 := c_5)) ?_
  refine ev_st (st' := [.int (σ.1 79 6), .int (σ.1 4 8)]) rfl ?_
  refine ev_b2 (t := 615) (p' := 615) rfl rfl rfl (if_pos c_6) ?_
  exact k
set_option maxHeartbeats 4000000 in
set_option maxRecDepth 100000 in
/-- GameTextLaw.law([I)Z -/
theorem lw_42_a1 {d : Nat} {σ : st_S} {x_b x_k : Int32} {q : vz_O × vz_H} {n L : Nat} {xs : Nat → Int32} (hs : gF σ 0 = .inl (0, L, .inl xs)) (hn : n + 6 ≤ L) (hL : L ≤ 3072) (hr_1_5 : σ.2.2.1 1 5 = 4) (hr_66_9 : σ.2.2.1 66 9 = 79) (c_1 : ¬ (σ.1 1 7) = 0) (c_2 : (xs (n + 1)) = 2) (c_3 : ¬ (σ.1 66 11) = 0) (c_4 : ¬ (xs (n + 1)) = 0) (c_5 : ¬ (xs (n + 1)) = 1) (c_6 : ¬ (¬ (xs (n + 1)) = 2)) (c_7 : (σ.1 4 10) = (σ.1 79 18)) (k : vz_ev P0 (d + 2) 0 615 [(4, .int (nI n)), (6, .int x_b), (5, .int x_k), (3, .ref 187), (2, .ref 66), (1, .ref 1), (0, .ref 0)] [] (hp (st_i (σ) 66 0 0)) q) : vz_ev P0 (d + 2) 0 267 [(4, .int (nI n)), (6, .int x_b), (5, .int x_k), (3, .ref 187), (2, .ref 66), (1, .ref 1), (0, .ref 0)] [] (hp σ) q := by
  refine ev_x (i := .aload_n 1) (len := 1) (p' := 268) (s' := [.ref 1]) rfl rfl rfl ?_
  refine ev_x (i := .aload_n 0) (len := 1) (p' := 269) (s' := [.ref 0, .ref 1]) rfl rfl rfl ?_
  refine ev_x (i := .iload 4) (len := 2) (p' := 271) (s' := [.int (nI n), .ref 0, .ref 1]) rfl rfl rfl ?_
  refine ev_x (i := .iconst 1) (len := 1) (p' := 272) (s' := [.int 1, .int (nI n), .ref 0, .ref 1]) rfl rfl rfl ?_
  refine ev_x (i := .iadd) (len := 1) (p' := 273) (s' := [.int ((nI n) + 1), .ref 0, .ref 1]) rfl rfl rfl ?_
  refine ev_st (st' := [.int (nI (n + 1)), .ref 0, .ref 1]) (congrArg (fun z => Value.int z :: [.ref 0, .ref 1]) (nI_add n 1)) ?_
  refine ev_sg (p' := 274) rfl rfl hs (vp_in_nI (by omega) (by omega)) rfl ?_
  refine ev_st (st' := [.int (xs (n + 1)), .ref 1]) (congrArg (fun z => Value.int (xs z) :: [.ref 1]) (nI_clamp (n := n + 1) (by omega))) ?_
  refine ev_cv (d := d + 1) (As := [.int (xs (n + 1))]) (a := 1) (p' := 277) rfl rfl rfl ly_1 rfl rfl rfl rfl rfl rfl rfl (lz_281 (d := d + 0) (hr_1_5 := hr_1_5) (c_1 := c_1) (c_2 := c_2)) ?_
  refine ev_st (st' := [.int (σ.1 4 10)]) rfl ?_
  refine ev_x (i := .aload_n 2) (len := 1) (p' := 278) (s' := [.ref 66, .int (σ.1 4 10)]) rfl rfl rfl ?_
  refine ev_x (i := .aload_n 0) (len := 1) (p' := 279) (s' := [.ref 0, .ref 66, .int (σ.1 4 10)]) rfl rfl rfl ?_
  refine ev_x (i := .iload 4) (len := 2) (p' := 281) (s' := [.int (nI n), .ref 0, .ref 66, .int (σ.1 4 10)]) rfl rfl rfl ?_
  refine ev_x (i := .iconst 1) (len := 1) (p' := 282) (s' := [.int 1, .int (nI n), .ref 0, .ref 66, .int (σ.1 4 10)]) rfl rfl rfl ?_
  refine ev_x (i := .iadd) (len := 1) (p' := 283) (s' := [.int ((nI n) + 1), .ref 0, .ref 66, .int (σ.1 4 10)]) rfl rfl rfl ?_
  refine ev_st (st' := [.int (nI (n + 1)), .ref 0, .ref 66, .int (σ.1 4 10)]) (congrArg (fun z => Value.int z :: [.ref 0, .ref 66, .int (σ.1 4 10)]) (nI_add n 1)) ?_
  refine ev_sg (p' := 284) rfl rfl hs (vp_in_nI (by omega) (by omega)) rfl ?_
  refine ev_st (st' := [.int (xs (n + 1)), .ref 66, .int (σ.1 4 10)]) (congrArg (fun z => Value.int (xs z) :: [.ref 66, .int (σ.1 4 10)]) (nI_clamp (n := n + 1) (by omega))) ?_
  refine ev_cv (d := d + 1) (As := [.int (xs (n + 1))]) (a := 66) (p' := 287) rfl rfl rfl ly_66 rfl rfl rfl rfl rfl rfl rfl (lz_282 (d := d + 0) (hr_66_9 := hr_66_9) (c_1 := c_3) (c_2 := c_4) (c_3 := c_5) (c_4 := c_6)) ?_
  refine ev_st (st' := [.int (σ.1 79 18), .int (σ.1 4 10)]) rfl ?_
  refine ev_b2 (t := 615) (p' := 615) rfl rfl rfl (if_pos c_7) ?_
  exact k
set_option maxHeartbeats 4000000 in
set_option maxRecDepth 100000 in
/-- GameTextLaw.law([I)Z -/
theorem lw_4x_a1 {d : Nat} {σ : st_S} {x_b x_k : Int32} {q : vz_O × vz_H} {n L : Nat} {xs : Nat → Int32} (hs : gF σ 0 = .inl (0, L, .inl xs)) (hn : n + 6 ≤ L) (hL : L ≤ 3072) (c_1 : ¬ (σ.1 1 7) = 0) (c_2 : ((xs (n + 1)) : Int32).toInt < 0 ∨ 2 < ((xs (n + 1)) : Int32).toInt) (c_3 : ¬ (σ.1 66 11) = 0) (c_4 : ¬ (xs (n + 1)) = 0) (c_5 : ¬ (xs (n + 1)) = 1) (c_6 : ¬ (xs (n + 1)) = 2) (k : vz_ev P0 (d + 2) 0 615 [(4, .int (nI n)), (6, .int x_b), (5, .int x_k), (3, .ref 187), (2, .ref 66), (1, .ref 1), (0, .ref 0)] [] (hp (st_i (σ) 66 0 0)) q) : vz_ev P0 (d + 2) 0 267 [(4, .int (nI n)), (6, .int x_b), (5, .int x_k), (3, .ref 187), (2, .ref 66), (1, .ref 1), (0, .ref 0)] [] (hp σ) q := by
  refine ev_x (i := .aload_n 1) (len := 1) (p' := 268) (s' := [.ref 1]) rfl rfl rfl ?_
  refine ev_x (i := .aload_n 0) (len := 1) (p' := 269) (s' := [.ref 0, .ref 1]) rfl rfl rfl ?_
  refine ev_x (i := .iload 4) (len := 2) (p' := 271) (s' := [.int (nI n), .ref 0, .ref 1]) rfl rfl rfl ?_
  refine ev_x (i := .iconst 1) (len := 1) (p' := 272) (s' := [.int 1, .int (nI n), .ref 0, .ref 1]) rfl rfl rfl ?_
  refine ev_x (i := .iadd) (len := 1) (p' := 273) (s' := [.int ((nI n) + 1), .ref 0, .ref 1]) rfl rfl rfl ?_
  refine ev_st (st' := [.int (nI (n + 1)), .ref 0, .ref 1]) (congrArg (fun z => Value.int z :: [.ref 0, .ref 1]) (nI_add n 1)) ?_
  refine ev_sg (p' := 274) rfl rfl hs (vp_in_nI (by omega) (by omega)) rfl ?_
  refine ev_st (st' := [.int (xs (n + 1)), .ref 1]) (congrArg (fun z => Value.int (xs z) :: [.ref 1]) (nI_clamp (n := n + 1) (by omega))) ?_
  refine ev_cv (d := d + 1) (As := [.int (xs (n + 1))]) (a := 1) (p' := 277) rfl rfl rfl ly_1 rfl rfl rfl rfl rfl rfl rfl (lz_284 (d := d + 0) (c_1 := c_1) (c_2 := c_2)) ?_
  refine ev_st (st' := [.int (-1)]) rfl ?_
  refine ev_x (i := .aload_n 2) (len := 1) (p' := 278) (s' := [.ref 66, .int (-1)]) rfl rfl rfl ?_
  refine ev_x (i := .aload_n 0) (len := 1) (p' := 279) (s' := [.ref 0, .ref 66, .int (-1)]) rfl rfl rfl ?_
  refine ev_x (i := .iload 4) (len := 2) (p' := 281) (s' := [.int (nI n), .ref 0, .ref 66, .int (-1)]) rfl rfl rfl ?_
  refine ev_x (i := .iconst 1) (len := 1) (p' := 282) (s' := [.int 1, .int (nI n), .ref 0, .ref 66, .int (-1)]) rfl rfl rfl ?_
  refine ev_x (i := .iadd) (len := 1) (p' := 283) (s' := [.int ((nI n) + 1), .ref 0, .ref 66, .int (-1)]) rfl rfl rfl ?_
  refine ev_st (st' := [.int (nI (n + 1)), .ref 0, .ref 66, .int (-1)]) (congrArg (fun z => Value.int z :: [.ref 0, .ref 66, .int (-1)]) (nI_add n 1)) ?_
  refine ev_sg (p' := 284) rfl rfl hs (vp_in_nI (by omega) (by omega)) rfl ?_
  refine ev_st (st' := [.int (xs (n + 1)), .ref 66, .int (-1)]) (congrArg (fun z => Value.int (xs z) :: [.ref 66, .int (-1)]) (nI_clamp (n := n + 1) (by omega))) ?_
  refine ev_cv (d := d + 1) (As := [.int (xs (n + 1))]) (a := 66) (p' := 287) rfl rfl rfl ly_66 rfl rfl rfl rfl rfl rfl rfl (lz_285 (d := d + 0) (c_1 := c_3) (c_2 := c_4) (c_3 := c_5) (c_4 := c_6)) ?_
  refine ev_st (st' := [.int (-1), .int (-1)]) rfl ?_
  refine ev_b2 (t := 615) (p' := 615) rfl rfl rfl (by decide) ?_
  exact k
set_option maxHeartbeats 4000000 in
set_option maxRecDepth 100000 in
/-- GameTextLaw.law([I)Z -/
theorem lw_1n_a1 {d : Nat} {σ : st_S} {x_b x_k : Int32} {q : vz_O × vz_H} {n L : Nat} {xs : Nat → Int32} (hs : gF σ 0 = .inl (0, L, .inl xs)) (hn : n + 6 ≤ L) (hL : L ≤ 3072) (c_1 : (xs (n + 1)) < 0) (k : vz_ev P0 (d + 10) 0 615 [(6, .int 0), (5, .int 1), (4, .int (nI n)), (3, .ref 187), (2, .ref 66), (1, .ref 1), (0, .ref 0)] [] (hp (st_i (st_n (σ) 1 6) 66 0 1)) q) : vz_ev P0 (d + 10) 0 185 [(4, .int (nI n)), (6, .int x_b), (5, .int x_k), (3, .ref 187), (2, .ref 66), (1, .ref 1), (0, .ref 0)] [] (hp σ) q := by
  refine ev_x (i := .aload_n 1) (len := 1) (p' := 186) (s' := [.ref 1]) rfl rfl rfl ?_
  refine ev_x (i := .aload_n 0) (len := 1) (p' := 187) (s' := [.ref 0, .ref 1]) rfl rfl rfl ?_
  refine ev_x (i := .iload 4) (len := 2) (p' := 189) (s' := [.int (nI n), .ref 0, .ref 1]) rfl rfl rfl ?_
  refine ev_x (i := .iconst 1) (len := 1) (p' := 190) (s' := [.int 1, .int (nI n), .ref 0, .ref 1]) rfl rfl rfl ?_
  refine ev_x (i := .iadd) (len := 1) (p' := 191) (s' := [.int ((nI n) + 1), .ref 0, .ref 1]) rfl rfl rfl ?_
  refine ev_st (st' := [.int (nI (n + 1)), .ref 0, .ref 1]) (congrArg (fun z => Value.int z :: [.ref 0, .ref 1]) (nI_add n 1)) ?_
  refine ev_sg (p' := 192) rfl rfl hs (vp_in_nI (by omega) (by omega)) rfl ?_
  refine ev_st (st' := [.int (xs (n + 1)), .ref 1]) (congrArg (fun z => Value.int (xs z) :: [.ref 1]) (nI_clamp (n := n + 1) (by omega))) ?_
  refine ev_x (i := .aload_n 3) (len := 1) (p' := 193) (s' := [.ref 187, .int (xs (n + 1)), .ref 1]) rfl rfl rfl ?_
  refine ev_callS (d := d + 9) (As := [.ref 1, .int (xs (n + 1)), .ref 187]) rfl rfl rfl (by decide) rfl rfl rfl rfl rfl (lz_288 (d := d + 0) (c_1 := c_1)) ?_
  refine ev_st (st' := [.int 1]) rfl ?_
  refine ev_pc (pc' := 196) rfl ?_
  refine ev_x (i := .istore 5) (len := 2) (p' := 198) (s' := []) (l' := [(5, .int 1), (4, .int (nI n)), (6, .int x_b), (3, .ref 187), (2, .ref 66), (1, .ref 1), (0, .ref 0)]) rfl rfl rfl ?_
  refine ev_x (i := .aload_n 2) (len := 1) (p' := 199) (s' := [.ref 66]) rfl rfl rfl ?_
  refine ev_x (i := .aload_n 0) (len := 1) (p' := 200) (s' := [.ref 0, .ref 66]) rfl rfl rfl ?_
  refine ev_x (i := .iload 4) (len := 2) (p' := 202) (s' := [.int (nI n), .ref 0, .ref 66]) rfl rfl rfl ?_
  refine ev_x (i := .iconst 1) (len := 1) (p' := 203) (s' := [.int 1, .int (nI n), .ref 0, .ref 66]) rfl rfl rfl ?_
  refine ev_x (i := .iadd) (len := 1) (p' := 204) (s' := [.int ((nI n) + 1), .ref 0, .ref 66]) rfl rfl rfl ?_
  refine ev_st (st' := [.int (nI (n + 1)), .ref 0, .ref 66]) (congrArg (fun z => Value.int z :: [.ref 0, .ref 66]) (nI_add n 1)) ?_
  refine ev_sg (p' := 205) rfl rfl hs (vp_in_nI (by omega) (by omega)) rfl ?_
  refine ev_st (st' := [.int (xs (n + 1)), .ref 66]) (congrArg (fun z => Value.int (xs z) :: [.ref 66]) (nI_clamp (n := n + 1) (by omega))) ?_
  refine ev_cv (d := d + 9) (As := [.int (xs (n + 1))]) (a := 66) (p' := 208) rfl rfl rfl ly_66 rfl rfl rfl rfl rfl rfl rfl (lz_289 (d := d + 8) (c_1 := c_1)) ?_
  refine ev_st (st' := [.int 0]) rfl ?_
  refine ev_x (i := .istore 6) (len := 2) (p' := 210) (s' := []) (l' := [(6, .int 0), (5, .int 1), (4, .int (nI n)), (3, .ref 187), (2, .ref 66), (1, .ref 1), (0, .ref 0)]) rfl rfl rfl ?_
  refine ev_x (i := .aload_n 2) (len := 1) (p' := 211) (s' := [.ref 66]) rfl rfl rfl ?_
  refine ev_cv (d := d + 9) (As := []) (a := 66) (p' := 214) rfl rfl rfl ly_66 rfl rfl rfl rfl rfl rfl rfl (lz_246 (d := d + 8) (hi_66_0 := rfl)) ?_
  refine ev_st (st' := [.int 1]) rfl ?_
  refine ev_x (i := .iload 5) (len := 2) (p' := 216) (s' := [.int 1, .int 1]) rfl rfl rfl ?_
  refine ev_b2 (t := 221) (p' := 221) rfl rfl rfl (by decide) ?_
  refine ev_x (i := .iload 5) (len := 2) (p' := 223) (s' := [.int 1]) rfl rfl rfl ?_
  refine ev_b0 (t := 238) (p' := 238) rfl rfl rfl (by decide) ?_
  refine ev_x (i := .goto 377) (len := 3) (p' := 615) (s' := []) rfl rfl rfl ?_
  exact k
set_option maxHeartbeats 4000000 in
set_option maxRecDepth 100000 in
/-- GameTextLaw.law([I)Z -/
theorem lw_1g_a1 {d : Nat} {σ : st_S} {x_b x_k : Int32} {q : vz_O × vz_H} {n L : Nat} {xs : Nat → Int32} (hs : gF σ 0 = .inl (0, L, .inl xs)) (hn : n + 6 ≤ L) (hL : L ≤ 3072) (c_1 : ¬ ((xs (n + 1)) < 0)) (c_2 : ¬ ((xs (n + 1)) ≤ 20)) (c_3 : 20 < (xs (n + 1))) (k : vz_ev P0 (d + 10) 0 615 [(6, .int 0), (5, .int 1), (4, .int (nI n)), (3, .ref 187), (2, .ref 66), (1, .ref 1), (0, .ref 0)] [] (hp (st_i (st_n (σ) 1 6) 66 0 1)) q) : vz_ev P0 (d + 10) 0 185 [(4, .int (nI n)), (6, .int x_b), (5, .int x_k), (3, .ref 187), (2, .ref 66), (1, .ref 1), (0, .ref 0)] [] (hp σ) q := by
  refine ev_x (i := .aload_n 1) (len := 1) (p' := 186) (s' := [.ref 1]) rfl rfl rfl ?_
  refine ev_x (i := .aload_n 0) (len := 1) (p' := 187) (s' := [.ref 0, .ref 1]) rfl rfl rfl ?_
  refine ev_x (i := .iload 4) (len := 2) (p' := 189) (s' := [.int (nI n), .ref 0, .ref 1]) rfl rfl rfl ?_
  refine ev_x (i := .iconst 1) (len := 1) (p' := 190) (s' := [.int 1, .int (nI n), .ref 0, .ref 1]) rfl rfl rfl ?_
  refine ev_x (i := .iadd) (len := 1) (p' := 191) (s' := [.int ((nI n) + 1), .ref 0, .ref 1]) rfl rfl rfl ?_
  refine ev_st (st' := [.int (nI (n + 1)), .ref 0, .ref 1]) (congrArg (fun z => Value.int z :: [.ref 0, .ref 1]) (nI_add n 1)) ?_
  refine ev_sg (p' := 192) rfl rfl hs (vp_in_nI (by omega) (by omega)) rfl ?_
  refine ev_st (st' := [.int (xs (n + 1)), .ref 1]) (congrArg (fun z => Value.int (xs z) :: [.ref 1]) (nI_clamp (n := n + 1) (by omega))) ?_
  refine ev_x (i := .aload_n 3) (len := 1) (p' := 193) (s' := [.ref 187, .int (xs (n + 1)), .ref 1]) rfl rfl rfl ?_
  refine ev_callS (d := d + 9) (As := [.ref 1, .int (xs (n + 1)), .ref 187]) rfl rfl rfl (by decide) rfl rfl rfl rfl rfl (lz_293 (d := d + 0) (c_1 := c_1) (c_2 := c_2)) ?_
  refine ev_st (st' := [.int 1]) rfl ?_
  refine ev_pc (pc' := 196) rfl ?_
  refine ev_x (i := .istore 5) (len := 2) (p' := 198) (s' := []) (l' := [(5, .int 1), (4, .int (nI n)), (6, .int x_b), (3, .ref 187), (2, .ref 66), (1, .ref 1), (0, .ref 0)]) rfl rfl rfl ?_
  refine ev_x (i := .aload_n 2) (len := 1) (p' := 199) (s' := [.ref 66]) rfl rfl rfl ?_
  refine ev_x (i := .aload_n 0) (len := 1) (p' := 200) (s' := [.ref 0, .ref 66]) rfl rfl rfl ?_
  refine ev_x (i := .iload 4) (len := 2) (p' := 202) (s' := [.int (nI n), .ref 0, .ref 66]) rfl rfl rfl ?_
  refine ev_x (i := .iconst 1) (len := 1) (p' := 203) (s' := [.int 1, .int (nI n), .ref 0, .ref 66]) rfl rfl rfl ?_
  refine ev_x (i := .iadd) (len := 1) (p' := 204) (s' := [.int ((nI n) + 1), .ref 0, .ref 66]) rfl rfl rfl ?_
  refine ev_st (st' := [.int (nI (n + 1)), .ref 0, .ref 66]) (congrArg (fun z => Value.int z :: [.ref 0, .ref 66]) (nI_add n 1)) ?_
  refine ev_sg (p' := 205) rfl rfl hs (vp_in_nI (by omega) (by omega)) rfl ?_
  refine ev_st (st' := [.int (xs (n + 1)), .ref 66]) (congrArg (fun z => Value.int (xs z) :: [.ref 66]) (nI_clamp (n := n + 1) (by omega))) ?_
  refine ev_cv (d := d + 9) (As := [.int (xs (n + 1))]) (a := 66) (p' := 208) rfl rfl rfl ly_66 rfl rfl rfl rfl rfl rfl rfl (lz_294 (d := d + 8) (c_1 := c_1) (c_2 := c_3)) ?_
  refine ev_st (st' := [.int 0]) rfl ?_
  refine ev_x (i := .istore 6) (len := 2) (p' := 210) (s' := []) (l' := [(6, .int 0), (5, .int 1), (4, .int (nI n)), (3, .ref 187), (2, .ref 66), (1, .ref 1), (0, .ref 0)]) rfl rfl rfl ?_
  refine ev_x (i := .aload_n 2) (len := 1) (p' := 211) (s' := [.ref 66]) rfl rfl rfl ?_
  refine ev_cv (d := d + 9) (As := []) (a := 66) (p' := 214) rfl rfl rfl ly_66 rfl rfl rfl rfl rfl rfl rfl (lz_246 (d := d + 8) (hi_66_0 := rfl)) ?_
  refine ev_st (st' := [.int 1]) rfl ?_
  refine ev_x (i := .iload 5) (len := 2) (p' := 216) (s' := [.int 1, .int 1]) rfl rfl rfl ?_
  refine ev_b2 (t := 221) (p' := 221) rfl rfl rfl (by decide) ?_
  refine ev_x (i := .iload 5) (len := 2) (p' := 223) (s' := [.int 1]) rfl rfl rfl ?_
  refine ev_b0 (t := 238) (p' := 238) rfl rfl rfl (by decide) ?_
  refine ev_x (i := .goto 377) (len := 3) (p' := 615) (s' := []) rfl rfl rfl ?_
  exact k
set_option maxHeartbeats 4000000 in
set_option maxRecDepth 100000 in
/-- GameTextLaw.law([I)Z -/
theorem lw_1f_a1 {d : Nat} {σ : st_S} {x_b x_k : Int32} {q : vz_O × vz_H} {n L : Nat} {xs : Nat → Int32} (hs : gF σ 0 = .inl (0, L, .inl xs)) (hn : n + 6 ≤ L) (hL : L ≤ 3072) (hr_66_1 : σ.2.2.1 66 1 = 67) (c_1 : ¬ ((xs (n + 1)) < 0)) (c_2 : (xs (n + 1)) ≤ 20) (c_3 : ¬ (20 ≤ (σ.1 2 1))) (c_4 : ¬ (20 < (xs (n + 1)))) (c_5 : ¬ (20 ≤ (σ.1 67 1))) (k : vz_ev P0 (d + 10) 0 615 [(6, .int 0), (5, .int 1), (4, .int (nI n)), (3, .ref 187), (2, .ref 66), (1, .ref 1), (0, .ref 0)] [] (hp (st_i (st_n (σ) 1 6) 66 0 1)) q) : vz_ev P0 (d + 10) 0 185 [(4, .int (nI n)), (6, .int x_b), (5, .int x_k), (3, .ref 187), (2, .ref 66), (1, .ref 1), (0, .ref 0)] [] (hp σ) q := by
  refine ev_x (i := .aload_n 1) (len := 1) (p' := 186) (s' := [.ref 1]) rfl rfl rfl ?_
  refine ev_x (i := .aload_n 0) (len := 1) (p' := 187) (s' := [.ref 0, .ref 1]) rfl rfl rfl ?_
  refine ev_x (i := .iload 4) (len := 2) (p' := 189) (s' := [.int (nI n), .ref 0, .ref 1]) rfl rfl rfl ?_
  refine ev_x (i := .iconst 1) (len := 1) (p' := 190) (s' := [.int 1, .int (nI n), .ref 0, .ref 1]) rfl rfl rfl ?_
  refine ev_x (i := .iadd) (len := 1) (p' := 191) (s' := [.int ((nI n) + 1), .ref 0, .ref 1]) rfl rfl rfl ?_
  refine ev_st (st' := [.int (nI (n + 1)), .ref 0, .ref 1]) (congrArg (fun z => Value.int z :: [.ref 0, .ref 1]) (nI_add n 1)) ?_
  refine ev_sg (p' := 192) rfl rfl hs (vp_in_nI (by omega) (by omega)) rfl ?_
  refine ev_st (st' := [.int (xs (n + 1)), .ref 1]) (congrArg (fun z => Value.int (xs z) :: [.ref 1]) (nI_clamp (n := n + 1) (by omega))) ?_
  refine ev_x (i := .aload_n 3) (len := 1) (p' := 193) (s' := [.ref 187, .int (xs (n + 1)), .ref 1]) rfl rfl rfl ?_
  refine ev_callS (d := d + 9) (As := [.ref 1, .int (xs (n + 1)), .ref 187]) rfl rfl rfl (by decide) rfl rfl rfl rfl rfl (lz_298 (d := d + 0) (c_1 := c_1) (c_2 := c_2) (c_3 := c_3)) ?_
  refine ev_st (st' := [.int 1]) rfl ?_
  refine ev_pc (pc' := 196) rfl ?_
  refine ev_x (i := .istore 5) (len := 2) (p' := 198) (s' := []) (l' := [(5, .int 1), (4, .int (nI n)), (6, .int x_b), (3, .ref 187), (2, .ref 66), (1, .ref 1), (0, .ref 0)]) rfl rfl rfl ?_
  refine ev_x (i := .aload_n 2) (len := 1) (p' := 199) (s' := [.ref 66]) rfl rfl rfl ?_
  refine ev_x (i := .aload_n 0) (len := 1) (p' := 200) (s' := [.ref 0, .ref 66]) rfl rfl rfl ?_
  refine ev_x (i := .iload 4) (len := 2) (p' := 202) (s' := [.int (nI n), .ref 0, .ref 66]) rfl rfl rfl ?_
  refine ev_x (i := .iconst 1) (len := 1) (p' := 203) (s' := [.int 1, .int (nI n), .ref 0, .ref 66]) rfl rfl rfl ?_
  refine ev_x (i := .iadd) (len := 1) (p' := 204) (s' := [.int ((nI n) + 1), .ref 0, .ref 66]) rfl rfl rfl ?_
  refine ev_st (st' := [.int (nI (n + 1)), .ref 0, .ref 66]) (congrArg (fun z => Value.int z :: [.ref 0, .ref 66]) (nI_add n 1)) ?_
  refine ev_sg (p' := 205) rfl rfl hs (vp_in_nI (by omega) (by omega)) rfl ?_
  refine ev_st (st' := [.int (xs (n + 1)), .ref 66]) (congrArg (fun z => Value.int (xs z) :: [.ref 66]) (nI_clamp (n := n + 1) (by omega))) ?_
  refine ev_cv (d := d + 9) (As := [.int (xs (n + 1))]) (a := 66) (p' := 208) rfl rfl rfl ly_66 rfl rfl rfl rfl rfl rfl rfl (lz_299 (d := d + 8) (hr_66_1 := hr_66_1) (c_1 := c_1) (c_2 := c_4) (c_3 := c_5)) ?_
  refine ev_st (st' := [.int 0]) rfl ?_
  refine ev_x (i := .istore 6) (len := 2) (p' := 210) (s' := []) (l' := [(6, .int 0), (5, .int 1), (4, .int (nI n)), (3, .ref 187), (2, .ref 66), (1, .ref 1), (0, .ref 0)]) rfl rfl rfl ?_
  refine ev_x (i := .aload_n 2) (len := 1) (p' := 211) (s' := [.ref 66]) rfl rfl rfl ?_
  refine ev_cv (d := d + 9) (As := []) (a := 66) (p' := 214) rfl rfl rfl ly_66 rfl rfl rfl rfl rfl rfl rfl (lz_246 (d := d + 8) (hi_66_0 := rfl)) ?_
  refine ev_st (st' := [.int 1]) rfl ?_
  refine ev_x (i := .iload 5) (len := 2) (p' := 216) (s' := [.int 1, .int 1]) rfl rfl rfl ?_
  refine ev_b2 (t := 221) (p' := 221) rfl rfl rfl (by decide) ?_
  refine ev_x (i := .iload 5) (len := 2) (p' := 223) (s' := [.int 1]) rfl rfl rfl ?_
  refine ev_b0 (t := 238) (p' := 238) rfl rfl rfl (by decide) ?_
  refine ev_x (i := .goto 377) (len := 3) (p' := 615) (s' := []) rfl rfl rfl ?_
  exact k
set_option maxHeartbeats 4000000 in
set_option maxRecDepth 100000 in
/-- GameTextLaw.law([I)Z -/
theorem lw_1o_a1 {d : Nat} {σ : st_S} {x_b x_k : Int32} {q : vz_O × vz_H} {n L : Nat} {xs : Nat → Int32} (hs : gF σ 0 = .inl (0, L, .inl xs)) (hn : n + 6 ≤ L) (hL : L ≤ 3072) (hr_66_1 : σ.2.2.1 66 1 = 67) (c_1 : ¬ ((xs (n + 1)) < 0)) (c_2 : (xs (n + 1)) ≤ 20) (c_3 : 20 ≤ (σ.1 2 1)) (c_4 : vp_in 0 (gN σ 187)) (c_5 : ¬ (20 < (xs (n + 1)))) (c_6 : 20 ≤ (σ.1 67 1)) (c_7 : (lg_cmp ((((σ.1 2 1) - 20) + (xs (n + 1))) : Int32).toInt64 ((((σ.1 67 1) - 20) + (xs (n + 1))) : Int32).toInt64) = 0) (k : vz_ev P0 (d + 3) 0 615 [(6, .int (((σ.1 67 1) - 20) + (xs (n + 1)))), (5, .int 0), (4, .int (nI n)), (3, .ref 187), (2, .ref 66), (1, .ref 1), (0, .ref 0)] [] (hp (st_i (st_i (st_E (st_i (σ) 2 1 (((σ.1 2 1) - 20) + (xs (n + 1)))) 187 0 ((((σ.1 2 1) - 20) + (xs (n + 1))) : Int32).toInt64) 66 0 0) 67 1 (((σ.1 67 1) - 20) + (xs (n + 1))))) q) : vz_ev P0 (d + 3) 0 185 [(4, .int (nI n)), (6, .int x_b), (5, .int x_k), (3, .ref 187), (2, .ref 66), (1, .ref 1), (0, .ref 0)] [] (hp σ) q := by
  refine ev_x (i := .aload_n 1) (len := 1) (p' := 186) (s' := [.ref 1]) rfl rfl rfl ?_
  refine ev_x (i := .aload_n 0) (len := 1) (p' := 187) (s' := [.ref 0, .ref 1]) rfl rfl rfl ?_
  refine ev_x (i := .iload 4) (len := 2) (p' := 189) (s' := [.int (nI n), .ref 0, .ref 1]) rfl rfl rfl ?_
  refine ev_x (i := .iconst 1) (len := 1) (p' := 190) (s' := [.int 1, .int (nI n), .ref 0, .ref 1]) rfl rfl rfl ?_
  refine ev_x (i := .iadd) (len := 1) (p' := 191) (s' := [.int ((nI n) + 1), .ref 0, .ref 1]) rfl rfl rfl ?_
  refine ev_st (st' := [.int (nI (n + 1)), .ref 0, .ref 1]) (congrArg (fun z => Value.int z :: [.ref 0, .ref 1]) (nI_add n 1)) ?_
  refine ev_sg (p' := 192) rfl rfl hs (vp_in_nI (by omega) (by omega)) rfl ?_
  refine ev_st (st' := [.int (xs (n + 1)), .ref 1]) (congrArg (fun z => Value.int (xs z) :: [.ref 1]) (nI_clamp (n := n + 1) (by omega))) ?_
  refine ev_x (i := .aload_n 3) (len := 1) (p' := 193) (s' := [.ref 187, .int (xs (n + 1)), .ref 1]) rfl rfl rfl ?_
  refine ev_callS (d := d + 2) (As := [.ref 1, .int (xs (n + 1)), .ref 187]) rfl rfl rfl (by decide) rfl rfl rfl rfl rfl (lz_303 (d := d + 0) (c_1 := c_1) (c_2 := c_2) (c_3 := c_3) (c_4 := c_4)) ?_
  refine ev_st (st' := [.int 0]) rfl ?_
  refine ev_pc (pc' := 196) rfl ?_
  refine ev_x (i := .istore 5) (len := 2) (p' := 198) (s' := []) (l' := [(5, .int 0), (4, .int (nI n)), (6, .int x_b), (3, .ref 187), (2, .ref 66), (1, .ref 1), (0, .ref 0)]) rfl rfl rfl ?_
  refine ev_x (i := .aload_n 2) (len := 1) (p' := 199) (s' := [.ref 66]) rfl rfl rfl ?_
  refine ev_x (i := .aload_n 0) (len := 1) (p' := 200) (s' := [.ref 0, .ref 66]) rfl rfl rfl ?_
  refine ev_x (i := .iload 4) (len := 2) (p' := 202) (s' := [.int (nI n), .ref 0, .ref 66]) rfl rfl rfl ?_
  refine ev_x (i := .iconst 1) (len := 1) (p' := 203) (s' := [.int 1, .int (nI n), .ref 0, .ref 66]) rfl rfl rfl ?_
  refine ev_x (i := .iadd) (len := 1) (p' := 204) (s' := [.int ((nI n) + 1), .ref 0, .ref 66]) rfl rfl rfl ?_
  refine ev_st (st' := [.int (nI (n + 1)), .ref 0, .ref 66]) (congrArg (fun z => Value.int z :: [.ref 0, .ref 66]) (nI_add n 1)) ?_
  refine ev_sg (p' := 205) rfl rfl hs (vp_in_nI (by omega) (by omega)) rfl ?_
  refine ev_st (st' := [.int (xs (n + 1)), .ref 66]) (congrArg (fun z => Value.int (xs z) :: [.ref 66]) (nI_clamp (n := n + 1) (by omega))) ?_
  refine ev_cv (d := d + 2) (As := [.int (xs (n + 1))]) (a := 66) (p' := 208) rfl rfl rfl ly_66 rfl rfl rfl rfl rfl rfl rfl (lz_304 (d := d + 1) (hr_66_1 := hr_66_1) (c_1 := c_1) (c_2 := c_5) (c_3 := c_6)) ?_
  refine ev_st (st' := [.int (((σ.1 67 1) - 20) + (xs (n + 1)))]) rfl ?_
  refine ev_x (i := .istore 6) (len := 2) (p' := 210) (s' := []) (l' := [(6, .int (((σ.1 67 1) - 20) + (xs (n + 1)))), (5, .int 0), (4, .int (nI n)), (3, .ref 187), (2, .ref 66), (1, .ref 1), (0, .ref 0)]) rfl rfl rfl ?_
  refine ev_x (i := .aload_n 2) (len := 1) (p' := 211) (s' := [.ref 66]) rfl rfl rfl ?_
  refine ev_cv (d := d + 2) (As := []) (a := 66) (p' := 214) rfl rfl rfl ly_66 rfl rfl rfl rfl rfl rfl rfl (lz_270 (d := d + 1) (hi_66_0 := rfl)) ?_
  refine ev_st (st' := [.int 0]) rfl ?_
  refine ev_x (i := .iload 5) (len := 2) (p' := 216) (s' := [.int 0, .int 0]) rfl rfl rfl ?_
  refine ev_b2 (t := 221) (p' := 221) rfl rfl rfl (by decide) ?_
  refine ev_x (i := .iload 5) (len := 2) (p' := 223) (s' := [.int 0]) rfl rfl rfl ?_
  refine ev_b0 (t := 238) (p' := 226) rfl rfl rfl (by decide) ?_
  refine ev_x (i := .aload_n 3) (len := 1) (p' := 227) (s' := [.ref 187]) rfl rfl rfl ?_
  refine ev_x (i := .iconst 0) (len := 1) (p' := 228) (s' := [.int 0, .ref 187]) rfl rfl rfl ?_
  refine ev_gL (p' := 229) (v := ((((σ.1 2 1) - 20) + (xs (n + 1))) : Int32).toInt64) rfl rfl ly_187 rfl c_4 rfl ?_
  refine ev_x (i := .iload 6) (len := 2) (p' := 231) (s' := [.int (((σ.1 67 1) - 20) + (xs (n + 1))), .long ((((σ.1 2 1) - 20) + (xs (n + 1))) : Int32).toInt64]) rfl rfl rfl ?_
  refine ev_x (i := .i2l) (len := 1) (p' := 232) (s' := [.long ((((σ.1 67 1) - 20) + (xs (n + 1))) : Int32).toInt64, .long ((((σ.1 2 1) - 20) + (xs (n + 1))) : Int32).toInt64]) rfl rfl rfl ?_
  refine ev_x (i := .lcmp) (len := 1) (p' := 233) (s' := [.int (lg_cmp ((((σ.1 2 1) - 20) + (xs (n + 1))) : Int32).toInt64 ((((σ.1 67 1) - 20) + (xs (n + 1))) : Int32).toInt64)]) rfl rfl rfl ?_
  refine ev_b0 (t := 238) (p' := 238) rfl rfl rfl (if_pos c_7) ?_
  refine ev_x (i := .goto 377) (len := 3) (p' := 615) (s' := []) rfl rfl rfl ?_
  exact k
set_option maxHeartbeats 4000000 in
set_option maxRecDepth 100000 in
/-- GameTextLaw.law([I)Z -/
theorem lw_5n_a1 {d : Nat} {σ : st_S} {x_b x_k : Int32} {q : vz_O × vz_H} {n L : Nat} {xs : Nat → Int32} (hs : gF σ 0 = .inl (0, L, .inl xs)) (hn : n + 6 ≤ L) (hL : L ≤ 3072) (c_1 : ¬ (¬ (σ.1 1 7) = 0)) (c_2 : (σ.1 66 11) = 0) (k : vz_ev P0 (d + 10) 0 615 [(6, .int 0), (5, .int 1), (4, .int (nI n)), (3, .ref 187), (2, .ref 66), (1, .ref 1), (0, .ref 0)] [] (hp (st_i (st_n (σ) 1 6) 66 0 1)) q) : vz_ev P0 (d + 10) 0 292 [(4, .int (nI n)), (6, .int x_b), (5, .int x_k), (3, .ref 187), (2, .ref 66), (1, .ref 1), (0, .ref 0)] [] (hp σ) q := by
  refine ev_x (i := .aload_n 1) (len := 1) (p' := 293) (s' := [.ref 1]) rfl rfl rfl ?_
  refine ev_x (i := .aload_n 3) (len := 1) (p' := 294) (s' := [.ref 187, .ref 1]) rfl rfl rfl ?_
  refine ev_callS (d := d + 9) (As := [.ref 1, .ref 187]) rfl rfl rfl (by decide) rfl rfl rfl rfl rfl (lz_308 (d := d + 0) (c_1 := c_1)) ?_
  refine ev_st (st' := [.int 1]) rfl ?_
  refine ev_pc (pc' := 297) rfl ?_
  refine ev_x (i := .istore 5) (len := 2) (p' := 299) (s' := []) (l' := [(5, .int 1), (4, .int (nI n)), (6, .int x_b), (3, .ref 187), (2, .ref 66), (1, .ref 1), (0, .ref 0)]) rfl rfl rfl ?_
  refine ev_x (i := .aload_n 2) (len := 1) (p' := 300) (s' := [.ref 66]) rfl rfl rfl ?_
  refine ev_cv (d := d + 9) (As := []) (a := 66) (p' := 303) rfl rfl rfl ly_66 rfl rfl rfl rfl rfl rfl rfl (lz_309 (d := d + 8) (c_1 := c_2)) ?_
  refine ev_st (st' := [.int 0]) rfl ?_
  refine ev_x (i := .istore 6) (len := 2) (p' := 305) (s' := []) (l' := [(6, .int 0), (5, .int 1), (4, .int (nI n)), (3, .ref 187), (2, .ref 66), (1, .ref 1), (0, .ref 0)]) rfl rfl rfl ?_
  refine ev_x (i := .aload_n 2) (len := 1) (p' := 306) (s' := [.ref 66]) rfl rfl rfl ?_
  refine ev_cv (d := d + 9) (As := []) (a := 66) (p' := 309) rfl rfl rfl ly_66 rfl rfl rfl rfl rfl rfl rfl (lz_246 (d := d + 8) (hi_66_0 := rfl)) ?_
  refine ev_st (st' := [.int 1]) rfl ?_
  refine ev_x (i := .iload 5) (len := 2) (p' := 311) (s' := [.int 1, .int 1]) rfl rfl rfl ?_
  refine ev_b2 (t := 316) (p' := 316) rfl rfl rfl (by decide) ?_
  refine ev_x (i := .iload 5) (len := 2) (p' := 318) (s' := [.int 1]) rfl rfl rfl ?_
  refine ev_b0 (t := 333) (p' := 333) rfl rfl rfl (by decide) ?_
  refine ev_x (i := .goto 282) (len := 3) (p' := 615) (s' := []) rfl rfl rfl ?_
  exact k
set_option maxHeartbeats 4000000 in
set_option maxRecDepth 100000 in
/-- GameTextLaw.law([I)Z -/
theorem lw_8m_b1 {d : Nat} {σ : st_S} {x_b x_k : Int32} {q : vz_O × vz_H} {n L : Nat} {xs : Nat → Int32} (hs : gF σ 0 = .inl (0, L, .inl xs)) (hn : n + 6 ≤ L) (hL : L ≤ 3072) (c_1 : ¬ ((xs (n + 1)) < 0)) (c_2 : ¬ ((σ.1 52 10) ≤ (xs (n + 1)))) (c_3 : (xs (n + 2)) < 0) (c_4 : ¬ ((σ.1 66 29) ≤ (xs (n + 1)))) (k : vz_ev P0 (d + 10) 0 615 [(6, .int 0), (5, .int 1), (4, .int (nI n)), (3, .ref 187), (2, .ref 66), (1, .ref 1), (0, .ref 0)] [] (hp (st_i (st_n (σ) 1 6) 66 0 1)) q) : vz_ev P0 (d + 10) 0 362 [(4, .int (nI n)), (6, .int x_b), (5, .int x_k), (3, .ref 187), (2, .ref 66), (1, .ref 1), (0, .ref 0)] [] (hp σ) q := by
  refine ev_x (i := .aload_n 1) (len := 1) (p' := 363) (s' := [.ref 1]) rfl rfl rfl ?_
  refine ev_x (i := .aload_n 0) (len := 1) (p' := 364) (s' := [.ref 0, .ref 1]) rfl rfl rfl ?_
  refine ev_x (i := .iload 4) (len := 2) (p' := 366) (s' := [.int (nI n), .ref 0, .ref 1]) rfl rfl rfl ?_
  refine ev_x (i := .iconst 1) (len := 1) (p' := 367) (s' := [.int 1, .int (nI n), .ref 0, .ref 1]) rfl rfl rfl ?_
  refine ev_x (i := .iadd) (len := 1) (p' := 368) (s' := [.int ((nI n) + 1), .ref 0, .ref 1]) rfl rfl rfl ?_
  refine ev_st (st' := [.int (nI (n + 1)), .ref 0, .ref 1]) (congrArg (fun z => Value.int z :: [.ref 0, .ref 1]) (nI_add n 1)) ?_
  refine ev_sg (p' := 369) rfl rfl hs (vp_in_nI (by omega) (by omega)) rfl ?_
  refine ev_st (st' := [.int (xs (n + 1)), .ref 1]) (congrArg (fun z => Value.int (xs z) :: [.ref 1]) (nI_clamp (n := n + 1) (by omega))) ?_
  refine ev_x (i := .aload_n 0) (len := 1) (p' := 370) (s' := [.ref 0, .int (xs (n + 1)), .ref 1]) rfl rfl rfl ?_
  refine ev_x (i := .iload 4) (len := 2) (p' := 372) (s' := [.int (nI n), .ref 0, .int (xs (n + 1)), .ref 1]) rfl rfl rfl ?_
  refine ev_x (i := .iconst 2) (len := 1) (p' := 373) (s' := [.int 2, .int (nI n), .ref 0, .int (xs (n + 1)), .ref 1]) rfl rfl rfl ?_
  refine ev_x (i := .iadd) (len := 1) (p' := 374) (s' := [.int ((nI n) + 2), .ref 0, .int (xs (n + 1)), .ref 1]) rfl rfl rfl ?_
  refine ev_st (st' := [.int (nI (n + 2)), .ref 0, .int (xs (n + 1)), .ref 1]) (congrArg (fun z => Value.int z :: [.ref 0, .int (xs (n + 1)), .ref 1]) (nI_add n 2)) ?_
  refine ev_sg (p' := 375) rfl rfl hs (vp_in_nI (by omega) (by omega)) rfl ?_
  refine ev_st (st' := [.int (xs (n + 2)), .int (xs (n + 1)), .ref 1]) (congrArg (fun z => Value.int (xs z) :: [.int (xs (n + 1)), .ref 1]) (nI_clamp (n := n + 2) (by omega))) ?_
  refine ev_x (i := .aload_n 3) (len := 1) (p' := 376) (s' := [.ref 187, .int (xs (n + 2)), .int (xs (n + 1)), .ref 1]) rfl rfl rfl ?_
  refine ev_callS (d := d + 9) (As := [.ref 1, .int (xs (n + 1)), .int (xs (n + 2)), .ref 187]) rfl rfl rfl (by decide) rfl rfl rfl rfl rfl (lz_256 (d := d + 0) (c_1 := c_1) (c_2 := c_2) (c_3 := c_3)) ?_
  refine ev_st (st' := [.int 1]) rfl ?_
  refine ev_pc (pc' := 379) rfl ?_
  refine ev_x (i := .istore 5) (len := 2) (p' := 381) (s' := []) (l' := [(5, .int 1), (4, .int (nI n)), (6, .int x_b), (3, .ref 187), (2, .ref 66), (1, .ref 1), (0, .ref 0)]) rfl rfl rfl ?_
  refine ev_x (i := .aload_n 2) (len := 1) (p' := 382) (s' := [.ref 66]) rfl rfl rfl ?_
  refine ev_x (i := .aload_n 0) (len := 1) (p' := 383) (s' := [.ref 0, .ref 66]) rfl rfl rfl ?_
  refine ev_x (i := .iload 4) (len := 2) (p' := 385) (s' := [.int (nI n), .ref 0, .ref 66]) rfl rfl rfl ?_
  refine ev_x (i := .iconst 1) (len := 1) (p' := 386) (s' := [.int 1, .int (nI n), .ref 0, .ref 66]) rfl rfl rfl ?_
  refine ev_x (i := .iadd) (len := 1) (p' := 387) (s' := [.int ((nI n) + 1), .ref 0, .ref 66]) rfl rfl rfl ?_
  refine ev_st (st' := [.int (nI (n + 1)), .ref 0, .ref 66]) (congrArg (fun z => Value.int z :: [.ref 0, .ref 66]) (nI_add n 1)) ?_
  refine ev_sg (p' := 388) rfl rfl hs (vp_in_nI (by omega) (by omega)) rfl ?_
  refine ev_st (st' := [.int (xs (n + 1)), .ref 66]) (congrArg (fun z => Value.int (xs z) :: [.ref 66]) (nI_clamp (n := n + 1) (by omega))) ?_
  refine ev_x (i := .aload_n 0) (len := 1) (p' := 389) (s' := [.ref 0, .int (xs (n + 1)), .ref 66]) rfl rfl rfl ?_
  refine ev_x (i := .iload 4) (len := 2) (p' := 391) (s' := [.int (nI n), .ref 0, .int (xs (n + 1)), .ref 66]) rfl rfl rfl ?_
  refine ev_x (i := .iconst 2) (len := 1) (p' := 392) (s' := [.int 2, .int (nI n), .ref 0, .int (xs (n + 1)), .ref 66]) rfl rfl rfl ?_
  refine ev_x (i := .iadd) (len := 1) (p' := 393) (s' := [.int ((nI n) + 2), .ref 0, .int (xs (n + 1)), .ref 66]) rfl rfl rfl ?_
  refine ev_st (st' := [.int (nI (n + 2)), .ref 0, .int (xs (n + 1)), .ref 66]) (congrArg (fun z => Value.int z :: [.ref 0, .int (xs (n + 1)), .ref 66]) (nI_add n 2)) ?_
  refine ev_sg (p' := 394) rfl rfl hs (vp_in_nI (by omega) (by omega)) rfl ?_
  refine ev_st (st' := [.int (xs (n + 2)), .int (xs (n + 1)), .ref 66]) (congrArg (fun z => Value.int (xs z) :: [.int (xs (n + 1)), .ref 66]) (nI_clamp (n := n + 2) (by omega))) ?_
  refine ev_cv (d := d + 9) (As := [.int (xs (n + 1)), .int (xs (n + 2))]) (a := 66) (p' := 397) rfl rfl rfl ly_66 rfl rfl rfl rfl rfl rfl rfl (lz_257 (d := d + 8) (c_1 := c_1) (c_2 := c_4) (c_3 := c_3)) ?_
  refine ev_st (st' := [.int 0]) rfl ?_
  refine ev_x (i := .istore 6) (len := 2) (p' := 399) (s' := []) (l' := [(6, .int 0), (5, .int 1), (4, .int (nI n)), (3, .ref 187), (2, .ref 66), (1, .ref 1), (0, .ref 0)]) rfl rfl rfl ?_
  refine ev_x (i := .aload_n 2) (len := 1) (p' := 400) (s' := [.ref 66]) rfl rfl rfl ?_
  refine ev_cv (d := d + 9) (As := []) (a := 66) (p' := 403) rfl rfl rfl ly_66 rfl rfl rfl rfl rfl rfl rfl (lz_246 (d := d + 8) (hi_66_0 := rfl)) ?_
  refine ev_st (st' := [.int 1]) rfl ?_
  refine ev_x (i := .iload 5) (len := 2) (p' := 405) (s' := [.int 1, .int 1]) rfl rfl rfl ?_
  refine ev_b2 (t := 410) (p' := 410) rfl rfl rfl (by decide) ?_
  refine ev_x (i := .iload 5) (len := 2) (p' := 412) (s' := [.int 1]) rfl rfl rfl ?_
  refine ev_b0 (t := 427) (p' := 427) rfl rfl rfl (by decide) ?_
  refine ev_x (i := .goto 188) (len := 3) (p' := 615) (s' := []) rfl rfl rfl ?_
  exact k
set_option maxHeartbeats 4000000 in
set_option maxRecDepth 100000 in
/-- GameTextLaw.law([I)Z -/
theorem lw_8h_b1 {d : Nat} {σ : st_S} {x_b x_k : Int32} {q : vz_O × vz_H} {n L : Nat} {xs : Nat → Int32} (hs : gF σ 0 = .inl (0, L, .inl xs)) (hn : n + 6 ≤ L) (hL : L ≤ 3072) (hr_66_9 : σ.2.2.1 66 9 = 115) (c_1 : ¬ ((xs (n + 1)) < 0)) (c_2 : ¬ ((σ.1 52 10) ≤ (xs (n + 1)))) (c_3 : ¬ ((xs (n + 2)) < 0)) (c_4 : ¬ ((xs (n + 2)) < (σ.1 52 9))) (c_5 : ¬ ((σ.1 66 29) ≤ (xs (n + 1)))) (c_6 : ¬ ((xs (n + 2)) < (σ.1 115 12))) (k : vz_ev P0 (d + 10) 0 615 [(6, .int 0), (5, .int 1), (4, .int (nI n)), (3, .ref 187), (2, .ref 66), (1, .ref 1), (0, .ref 0)] [] (hp (st_i (st_n (σ) 1 6) 66 0 1)) q) : vz_ev P0 (d + 10) 0 362 [(4, .int (nI n)), (6, .int x_b), (5, .int x_k), (3, .ref 187), (2, .ref 66), (1, .ref 1), (0, .ref 0)] [] (hp σ) q := by
  refine ev_x (i := .aload_n 1) (len := 1) (p' := 363) (s' := [.ref 1]) rfl rfl rfl ?_
  refine ev_x (i := .aload_n 0) (len := 1) (p' := 364) (s' := [.ref 0, .ref 1]) rfl rfl rfl ?_
  refine ev_x (i := .iload 4) (len := 2) (p' := 366) (s' := [.int (nI n), .ref 0, .ref 1]) rfl rfl rfl ?_
  refine ev_x (i := .iconst 1) (len := 1) (p' := 367) (s' := [.int 1, .int (nI n), .ref 0, .ref 1]) rfl rfl rfl ?_
  refine ev_x (i := .iadd) (len := 1) (p' := 368) (s' := [.int ((nI n) + 1), .ref 0, .ref 1]) rfl rfl rfl ?_
  refine ev_st (st' := [.int (nI (n + 1)), .ref 0, .ref 1]) (congrArg (fun z => Value.int z :: [.ref 0, .ref 1]) (nI_add n 1)) ?_
  refine ev_sg (p' := 369) rfl rfl hs (vp_in_nI (by omega) (by omega)) rfl ?_
  refine ev_st (st' := [.int (xs (n + 1)), .ref 1]) (congrArg (fun z => Value.int (xs z) :: [.ref 1]) (nI_clamp (n := n + 1) (by omega))) ?_
  refine ev_x (i := .aload_n 0) (len := 1) (p' := 370) (s' := [.ref 0, .int (xs (n + 1)), .ref 1]) rfl rfl rfl ?_
  refine ev_x (i := .iload 4) (len := 2) (p' := 372) (s' := [.int (nI n), .ref 0, .int (xs (n + 1)), .ref 1]) rfl rfl rfl ?_
  refine ev_x (i := .iconst 2) (len := 1) (p' := 373) (s' := [.int 2, .int (nI n), .ref 0, .int (xs (n + 1)), .ref 1]) rfl rfl rfl ?_
  refine ev_x (i := .iadd) (len := 1) (p' := 374) (s' := [.int ((nI n) + 2), .ref 0, .int (xs (n + 1)), .ref 1]) rfl rfl rfl ?_
  refine ev_st (st' := [.int (nI (n + 2)), .ref 0, .int (xs (n + 1)), .ref 1]) (congrArg (fun z => Value.int z :: [.ref 0, .int (xs (n + 1)), .ref 1]) (nI_add n 2)) ?_
  refine ev_sg (p' := 375) rfl rfl hs (vp_in_nI (by omega) (by omega)) rfl ?_
  refine ev_st (st' := [.int (xs (n + 2)), .int (xs (n + 1)), .ref 1]) (congrArg (fun z => Value.int (xs z) :: [.int (xs (n + 1)), .ref 1]) (nI_clamp (n := n + 2) (by omega))) ?_
  refine ev_x (i := .aload_n 3) (len := 1) (p' := 376) (s' := [.ref 187, .int (xs (n + 2)), .int (xs (n + 1)), .ref 1]) rfl rfl rfl ?_
  refine ev_callS (d := d + 9) (As := [.ref 1, .int (xs (n + 1)), .int (xs (n + 2)), .ref 187]) rfl rfl rfl (by decide) rfl rfl rfl rfl rfl (lz_262 (d := d + 0) (c_1 := c_1) (c_2 := c_2) (c_3 := c_3) (c_4 := c_4)) ?_
  refine ev_st (st' := [.int 1]) rfl ?_
  refine ev_pc (pc' := 379) rfl ?_
  refine ev_x (i := .istore 5) (len := 2) (p' := 381) (s' := []) (l' := [(5, .int 1), (4, .int (nI n)), (6, .int x_b), (3, .ref 187), (2, .ref 66), (1, .ref 1), (0, .ref 0)]) rfl rfl rfl ?_
  refine ev_x (i := .aload_n 2) (len := 1) (p' := 382) (s' := [.ref 66]) rfl rfl rfl ?_
  refine ev_x (i := .aload_n 0) (len := 1) (p' := 383) (s' := [.ref 0, .ref 66]) rfl rfl rfl ?_
  refine ev_x (i := .iload 4) (len := 2) (p' := 385) (s' := [.int (nI n), .ref 0, .ref 66]) rfl rfl rfl ?_
  refine ev_x (i := .iconst 1) (len := 1) (p' := 386) (s' := [.int 1, .int (nI n), .ref 0, .ref 66]) rfl rfl rfl ?_
  refine ev_x (i := .iadd) (len := 1) (p' := 387) (s' := [.int ((nI n) + 1), .ref 0, .ref 66]) rfl rfl rfl ?_
  refine ev_st (st' := [.int (nI (n + 1)), .ref 0, .ref 66]) (congrArg (fun z => Value.int z :: [.ref 0, .ref 66]) (nI_add n 1)) ?_
  refine ev_sg (p' := 388) rfl rfl hs (vp_in_nI (by omega) (by omega)) rfl ?_
  refine ev_st (st' := [.int (xs (n + 1)), .ref 66]) (congrArg (fun z => Value.int (xs z) :: [.ref 66]) (nI_clamp (n := n + 1) (by omega))) ?_
  refine ev_x (i := .aload_n 0) (len := 1) (p' := 389) (s' := [.ref 0, .int (xs (n + 1)), .ref 66]) rfl rfl rfl ?_
  refine ev_x (i := .iload 4) (len := 2) (p' := 391) (s' := [.int (nI n), .ref 0, .int (xs (n + 1)), .ref 66]) rfl rfl rfl ?_
  refine ev_x (i := .iconst 2) (len := 1) (p' := 392) (s' := [.int 2, .int (nI n), .ref 0, .int (xs (n + 1)), .ref 66]) rfl rfl rfl ?_
  refine ev_x (i := .iadd) (len := 1) (p' := 393) (s' := [.int ((nI n) + 2), .ref 0, .int (xs (n + 1)), .ref 66]) rfl rfl rfl ?_
  refine ev_st (st' := [.int (nI (n + 2)), .ref 0, .int (xs (n + 1)), .ref 66]) (congrArg (fun z => Value.int z :: [.ref 0, .int (xs (n + 1)), .ref 66]) (nI_add n 2)) ?_
  refine ev_sg (p' := 394) rfl rfl hs (vp_in_nI (by omega) (by omega)) rfl ?_
  refine ev_st (st' := [.int (xs (n + 2)), .int (xs (n + 1)), .ref 66]) (congrArg (fun z => Value.int (xs z) :: [.int (xs (n + 1)), .ref 66]) (nI_clamp (n := n + 2) (by omega))) ?_
  refine ev_cv (d := d + 9) (As := [.int (xs (n + 1)), .int (xs (n + 2))]) (a := 66) (p' := 397) rfl rfl rfl ly_66 rfl rfl rfl rfl rfl rfl rfl (lz_321 (d := d + 8) (hr_66_9 := hr_66_9) (c_1 := c_1) (c_2 := c_5) (c_3 := c_3) (c_4 := c_6)) ?_
  refine ev_st (st' := [.int 0]) rfl ?_
  refine ev_x (i := .istore 6) (len := 2) (p' := 399) (s' := []) (l' := [(6, .int 0), (5, .int 1), (4, .int (nI n)), (3, .ref 187), (2, .ref 66), (1, .ref 1), (0, .ref 0)]) rfl rfl rfl ?_
  refine ev_x (i := .aload_n 2) (len := 1) (p' := 400) (s' := [.ref 66]) rfl rfl rfl ?_
  refine ev_cv (d := d + 9) (As := []) (a := 66) (p' := 403) rfl rfl rfl ly_66 rfl rfl rfl rfl rfl rfl rfl (lz_246 (d := d + 8) (hi_66_0 := rfl)) ?_
  refine ev_st (st' := [.int 1]) rfl ?_
  refine ev_x (i := .iload 5) (len := 2) (p' := 405) (s' := [.int 1, .int 1]) rfl rfl rfl ?_
  refine ev_b2 (t := 410) (p' := 410) rfl rfl rfl (by decide) ?_
  refine ev_x (i := .iload 5) (len := 2) (p' := 412) (s' := [.int 1]) rfl rfl rfl ?_
  refine ev_b0 (t := 427) (p' := 427) rfl rfl rfl (by decide) ?_
  refine ev_x (i := .goto 188) (len := 3) (p' := 615) (s' := []) rfl rfl rfl ?_
  exact k
set_option maxHeartbeats 4000000 in
set_option maxRecDepth 100000 in
/-- GameTextLaw.law([I)Z -/
theorem lw_8o_b1 {d : Nat} {σ : st_S} {x_b x_k : Int32} {q : vz_O × vz_H} {n L : Nat} {xs : Nat → Int32} (hs : gF σ 0 = .inl (0, L, .inl xs)) (hn : n + 6 ≤ L) (hL : L ≤ 3072) (hr_66_9 : σ.2.2.1 66 9 = 115) (c_1 : ¬ ((xs (n + 1)) < 0)) (c_2 : ¬ ((σ.1 52 10) ≤ (xs (n + 1)))) (c_3 : ¬ ((xs (n + 2)) < 0)) (c_4 : (xs (n + 2)) < (σ.1 52 9)) (c_5 : vp_in (((xs (n + 1)) * 12) + (xs (n + 2))) (gN σ 54)) (c_6 : vp_in 0 (gN σ 187)) (c_7 : ¬ ((σ.1 66 29) ≤ (xs (n + 1)))) (c_8 : (xs (n + 2)) < (σ.1 115 12)) (c_9 : vp_in ((12 * (xs (n + 1))) + (xs (n + 2))) (gN σ 171)) (c_10 : (lg_cmp ((gE σ 54 (((((xs (n + 1)) * 12) + (xs (n + 2)))).toNatClampNeg)) : Int32).toInt64 ((gE σ 171 ((((12 * (xs (n + 1))) + (xs (n + 2)))).toNatClampNeg)) : Int32).toInt64) = 0) (k : vz_ev P0 (d + 4) 0 615 [(6, .int (gE σ 171 ((((12 * (xs (n + 1))) + (xs (n + 2)))).toNatClampNeg))), (5, .int 0), (4, .int (nI n)), (3, .ref 187), (2, .ref 66), (1, .ref 1), (0, .ref 0)] [] (hp (st_i (st_E (σ) 187 0 ((gE σ 54 (((((xs (n + 1)) * 12) + (xs (n + 2)))).toNatClampNeg)) : Int32).toInt64) 66 0 0)) q) : vz_ev P0 (d + 4) 0 362 [(4, .int (nI n)), (6, .int x_b), (5, .int x_k), (3, .ref 187), (2, .ref 66), (1, .ref 1), (0, .ref 0)] [] (hp σ) q := by
  refine ev_x (i := .aload_n 1) (len := 1) (p' := 363) (s' := [.ref 1]) rfl rfl rfl ?_
  refine ev_x (i := .aload_n 0) (len := 1) (p' := 364) (s' := [.ref 0, .ref 1]) rfl rfl rfl ?_
  refine ev_x (i := .iload 4) (len := 2) (p' := 366) (s' := [.int (nI n), .ref 0, .ref 1]) rfl rfl rfl ?_
  refine ev_x (i := .iconst 1) (len := 1) (p' := 367) (s' := [.int 1, .int (nI n), .ref 0, .ref 1]) rfl rfl rfl ?_
  refine ev_x (i := .iadd) (len := 1) (p' := 368) (s' := [.int ((nI n) + 1), .ref 0, .ref 1]) rfl rfl rfl ?_
  refine ev_st (st' := [.int (nI (n + 1)), .ref 0, .ref 1]) (congrArg (fun z => Value.int z :: [.ref 0, .ref 1]) (nI_add n 1)) ?_
  refine ev_sg (p' := 369) rfl rfl hs (vp_in_nI (by omega) (by omega)) rfl ?_
  refine ev_st (st' := [.int (xs (n + 1)), .ref 1]) (congrArg (fun z => Value.int (xs z) :: [.ref 1]) (nI_clamp (n := n + 1) (by omega))) ?_
  refine ev_x (i := .aload_n 0) (len := 1) (p' := 370) (s' := [.ref 0, .int (xs (n + 1)), .ref 1]) rfl rfl rfl ?_
  refine ev_x (i := .iload 4) (len := 2) (p' := 372) (s' := [.int (nI n), .ref 0, .int (xs (n + 1)), .ref 1]) rfl rfl rfl ?_
  refine ev_x (i := .iconst 2) (len := 1) (p' := 373) (s' := [.int 2, .int (nI n), .ref 0, .int (xs (n + 1)), .ref 1]) rfl rfl rfl ?_
  refine ev_x (i := .iadd) (len := 1) (p' := 374) (s' := [.int ((nI n) + 2), .ref 0, .int (xs (n + 1)), .ref 1]) rfl rfl rfl ?_
  refine ev_st (st' := [.int (nI (n + 2)), .ref 0, .int (xs (n + 1)), .ref 1]) (congrArg (fun z => Value.int z :: [.ref 0, .int (xs (n + 1)), .ref 1]) (nI_add n 2)) ?_
  refine ev_sg (p' := 375) rfl rfl hs (vp_in_nI (by omega) (by omega)) rfl ?_
  refine ev_st (st' := [.int (xs (n + 2)), .int (xs (n + 1)), .ref 1]) (congrArg (fun z => Value.int (xs z) :: [.int (xs (n + 1)), .ref 1]) (nI_clamp (n := n + 2) (by omega))) ?_
  refine ev_x (i := .aload_n 3) (len := 1) (p' := 376) (s' := [.ref 187, .int (xs (n + 2)), .int (xs (n + 1)), .ref 1]) rfl rfl rfl ?_
  refine ev_callS (d := d + 3) (As := [.ref 1, .int (xs (n + 1)), .int (xs (n + 2)), .ref 187]) rfl rfl rfl (by decide) rfl rfl rfl rfl rfl (lz_268 (d := d + 0) (c_1 := c_1) (c_2 := c_2) (c_3 := c_3) (c_4 := c_4) (c_5 := c_5) (c_6 := c_6)) ?_
  refine ev_st (st' := [.int 0]) rfl ?_
  refine ev_pc (pc' := 379) rfl ?_
  refine ev_x (i := .istore 5) (len := 2) (p' := 381) (s' := []) (l' := [(5, .int 0), (4, .int (nI n)), (6, .int x_b), (3, .ref 187), (2, .ref 66), (1, .ref 1), (0, .ref 0)]) rfl rfl rfl ?_
  refine ev_x (i := .aload_n 2) (len := 1) (p' := 382) (s' := [.ref 66]) rfl rfl rfl ?_
  refine ev_x (i := .aload_n 0) (len := 1) (p' := 383) (s' := [.ref 0, .ref 66]) rfl rfl rfl ?_
  refine ev_x (i := .iload 4) (len := 2) (p' := 385) (s' := [.int (nI n), .ref 0, .ref 66]) rfl rfl rfl ?_
  refine ev_x (i := .iconst 1) (len := 1) (p' := 386) (s' := [.int 1, .int (nI n), .ref 0, .ref 66]) rfl rfl rfl ?_
  refine ev_x (i := .iadd) (len := 1) (p' := 387) (s' := [.int ((nI n) + 1), .ref 0, .ref 66]) rfl rfl rfl ?_
  refine ev_st (st' := [.int (nI (n + 1)), .ref 0, .ref 66]) (congrArg (fun z => Value.int z :: [.ref 0, .ref 66]) (nI_add n 1)) ?_
  refine ev_sg (p' := 388) rfl rfl hs (vp_in_nI (by omega) (by omega)) rfl ?_
  refine ev_st (st' := [.int (xs (n + 1)), .ref 66]) (congrArg (fun z => Value.int (xs z) :: [.ref 66]) (nI_clamp (n := n + 1) (by omega))) ?_
  refine ev_x (i := .aload_n 0) (len := 1) (p' := 389) (s' := [.ref 0, .int (xs (n + 1)), .ref 66]) rfl rfl rfl ?_
  refine ev_x (i := .iload 4) (len := 2) (p' := 391) (s' := [.int (nI n), .ref 0, .int (xs (n + 1)), .ref 66]) rfl rfl rfl ?_
  refine ev_x (i := .iconst 2) (len := 1) (p' := 392) (s' := [.int 2, .int (nI n), .ref 0, .int (xs (n + 1)), .ref 66]) rfl rfl rfl ?_
  refine ev_x (i := .iadd) (len := 1) (p' := 393) (s' := [.int ((nI n) + 2), .ref 0, .int (xs (n + 1)), .ref 66]) rfl rfl rfl ?_
  refine ev_st (st' := [.int (nI (n + 2)), .ref 0, .int (xs (n + 1)), .ref 66]) (congrArg (fun z => Value.int z :: [.ref 0, .int (xs (n + 1)), .ref 66]) (nI_add n 2)) ?_
  refine ev_sg (p' := 394) rfl rfl hs (vp_in_nI (by omega) (by omega)) rfl ?_
  refine ev_st (st' := [.int (xs (n + 2)), .int (xs (n + 1)), .ref 66]) (congrArg (fun z => Value.int (xs z) :: [.int (xs (n + 1)), .ref 66]) (nI_clamp (n := n + 2) (by omega))) ?_
  refine ev_cv (d := d + 3) (As := [.int (xs (n + 1)), .int (xs (n + 2))]) (a := 66) (p' := 397) rfl rfl rfl ly_66 rfl rfl rfl rfl rfl rfl rfl (lz_327 (d := d + 2) (hr_66_9 := hr_66_9) (c_1 := c_1) (c_2 := c_7) (c_3 := c_3) (c_4 := c_8) (c_5 := c_9)) ?_
  refine ev_st (st' := [.int (gE σ 171 ((((12 * (xs (n + 1))) + (xs (n + 2)))).toNatClampNeg))]) rfl ?_
  refine ev_x (i := .istore 6) (len := 2) (p' := 399) (s' := []) (l' := [(6, .int (gE σ 171 ((((12 * (xs (n + 1))) + (xs (n + 2)))).toNatClampNeg))), (5, .int 0), (4, .int (nI n)), (3, .ref 187), (2, .ref 66), (1, .ref 1), (0, .ref 0)]) rfl rfl rfl ?_
  refine ev_x (i := .aload_n 2) (len := 1) (p' := 400) (s' := [.ref 66]) rfl rfl rfl ?_
  refine ev_cv (d := d + 3) (As := []) (a := 66) (p' := 403) rfl rfl rfl ly_66 rfl rfl rfl rfl rfl rfl rfl (lz_270 (d := d + 2) (hi_66_0 := rfl)) ?_
  refine ev_st (st' := [.int 0]) rfl ?_
  refine ev_x (i := .iload 5) (len := 2) (p' := 405) (s' := [.int 0, .int 0]) rfl rfl rfl ?_
  refine ev_b2 (t := 410) (p' := 410) rfl rfl rfl (by decide) ?_
  refine ev_x (i := .iload 5) (len := 2) (p' := 412) (s' := [.int 0]) rfl rfl rfl ?_
  refine ev_b0 (t := 427) (p' := 415) rfl rfl rfl (by decide) ?_
  refine ev_x (i := .aload_n 3) (len := 1) (p' := 416) (s' := [.ref 187]) rfl rfl rfl ?_
  refine ev_x (i := .iconst 0) (len := 1) (p' := 417) (s' := [.int 0, .ref 187]) rfl rfl rfl ?_
  refine ev_gL (p' := 418) (v := ((gE σ 54 (((((xs (n + 1)) * 12) + (xs (n + 2)))).toNatClampNeg)) : Int32).toInt64) rfl rfl ly_187 rfl c_6 rfl ?_
  refine ev_x (i := .iload 6) (len := 2) (p' := 420) (s' := [.int (gE σ 171 ((((12 * (xs (n + 1))) + (xs (n + 2)))).toNatClampNeg)), .long ((gE σ 54 (((((xs (n + 1)) * 12) + (xs (n + 2)))).toNatClampNeg)) : Int32).toInt64]) rfl rfl rfl ?_
  refine ev_x (i := .i2l) (len := 1) (p' := 421) (s' := [.long ((gE σ 171 ((((12 * (xs (n + 1))) + (xs (n + 2)))).toNatClampNeg)) : Int32).toInt64, .long ((gE σ 54 (((((xs (n + 1)) * 12) + (xs (n + 2)))).toNatClampNeg)) : Int32).toInt64]) rfl rfl rfl ?_
  refine ev_x (i := .lcmp) (len := 1) (p' := 422) (s' := [.int (lg_cmp ((gE σ 54 (((((xs (n + 1)) * 12) + (xs (n + 2)))).toNatClampNeg)) : Int32).toInt64 ((gE σ 171 ((((12 * (xs (n + 1))) + (xs (n + 2)))).toNatClampNeg)) : Int32).toInt64)]) rfl rfl rfl ?_
  refine ev_b0 (t := 427) (p' := 427) rfl rfl rfl (if_pos c_10) ?_
  refine ev_x (i := .goto 188) (len := 3) (p' := 615) (s' := []) rfl rfl rfl ?_
  exact k
set_option maxHeartbeats 4000000 in
set_option maxRecDepth 100000 in
/-- GameTextLaw.law([I)Z -/
theorem lw_40_b1 {d : Nat} {σ : st_S} {x_b x_k : Int32} {q : vz_O × vz_H} {n L : Nat} {xs : Nat → Int32} (hs : gF σ 0 = .inl (0, L, .inl xs)) (hn : n + 6 ≤ L) (hL : L ≤ 3072) (hr_1_5 : σ.2.2.1 1 5 = 20) (hr_66_9 : σ.2.2.1 66 9 = 115) (c_1 : ¬ (σ.1 1 7) = 0) (c_2 : (xs (n + 1)) = 0) (c_3 : ¬ (σ.1 66 11) = 0) (c_4 : ¬ (¬ (xs (n + 1)) = 0)) (c_5 : (σ.1 20 7) = (σ.1 115 12)) (k : vz_ev P0 (d + 2) 0 615 [(4, .int (nI n)), (6, .int x_b), (5, .int x_k), (3, .ref 187), (2, .ref 66), (1, .ref 1), (0, .ref 0)] [] (hp (st_i (σ) 66 0 0)) q) : vz_ev P0 (d + 2) 0 267 [(4, .int (nI n)), (6, .int x_b), (5, .int x_k), (3, .ref 187), (2, .ref 66), (1, .ref 1), (0, .ref 0)] [] (hp σ) q := by
  refine ev_x (i := .aload_n 1) (len := 1) (p' := 268) (s' := [.ref 1]) rfl rfl rfl ?_
  refine ev_x (i := .aload_n 0) (len := 1) (p' := 269) (s' := [.ref 0, .ref 1]) rfl rfl rfl ?_
  refine ev_x (i := .iload 4) (len := 2) (p' := 271) (s' := [.int (nI n), .ref 0, .ref 1]) rfl rfl rfl ?_
  refine ev_x (i := .iconst 1) (len := 1) (p' := 272) (s' := [.int 1, .int (nI n), .ref 0, .ref 1]) rfl rfl rfl ?_
  refine ev_x (i := .iadd) (len := 1) (p' := 273) (s' := [.int ((nI n) + 1), .ref 0, .ref 1]) rfl rfl rfl ?_
  refine ev_st (st' := [.int (nI (n + 1)), .ref 0, .ref 1]) (congrArg (fun z => Value.int z :: [.ref 0, .ref 1]) (nI_add n 1)) ?_
  refine ev_sg (p' := 274) rfl rfl hs (vp_in_nI (by omega) (by omega)) rfl ?_
  refine ev_st (st' := [.int (xs (n + 1)), .ref 1]) (congrArg (fun z => Value.int (xs z) :: [.ref 1]) (nI_clamp (n := n + 1) (by omega))) ?_
  refine ev_cv (d := d + 1) (As := [.int (xs (n + 1))]) (a := 1) (p' := 277) rfl rfl rfl ly_1 rfl rfl rfl rfl rfl rfl rfl (lz_330 (d := d + 0) (hr_1_5 := hr_1_5) (c_1 := c_1) (c_2 := c_2)) ?_
  refine ev_st (st' := [.int (σ.1 20 7)]) rfl ?_
  refine ev_x (i := .aload_n 2) (len := 1) (p' := 278) (s' := [.ref 66, .int (σ.1 20 7)]) rfl rfl rfl ?_
  refine ev_x (i := .aload_n 0) (len := 1) (p' := 279) (s' := [.ref 0, .ref 66, .int (σ.1 20 7)]) rfl rfl rfl ?_
  refine ev_x (i := .iload 4) (len := 2) (p' := 281) (s' := [.int (nI n), .ref 0, .ref 66, .int (σ.1 20 7)]) rfl rfl rfl ?_
  refine ev_x (i := .iconst 1) (len := 1) (p' := 282) (s' := [.int 1, .int (nI n), .ref 0, .ref 66, .int (σ.1 20 7)]) rfl rfl rfl ?_
  refine ev_x (i := .iadd) (len := 1) (p' := 283) (s' := [.int ((nI n) + 1), .ref 0, .ref 66, .int (σ.1 20 7)]) rfl rfl rfl ?_
  refine ev_st (st' := [.int (nI (n + 1)), .ref 0, .ref 66, .int (σ.1 20 7)]) (congrArg (fun z => Value.int z :: [.ref 0, .ref 66, .int (σ.1 20 7)]) (nI_add n 1)) ?_
  refine ev_sg (p' := 284) rfl rfl hs (vp_in_nI (by omega) (by omega)) rfl ?_
  refine ev_st (st' := [.int (xs (n + 1)), .ref 66, .int (σ.1 20 7)]) (congrArg (fun z => Value.int (xs z) :: [.ref 66, .int (σ.1 20 7)]) (nI_clamp (n := n + 1) (by omega))) ?_
  refine ev_cv (d := d + 1) (As := [.int (xs (n + 1))]) (a := 66) (p' := 287) rfl rfl rfl ly_66 rfl rfl rfl rfl rfl rfl rfl (lz_331 (d := d + 0) (hr_66_9 := hr_66_9) (c_1 := c_3) (c_2 := c_4)) ?_
  refine ev_st (st' := [.int (σ.1 115 12), .int (σ.1 20 7)]) rfl ?_
  refine ev_b2 (t := 615) (p' := 615) rfl rfl rfl (if_pos c_5) ?_
  exact k
set_option maxHeartbeats 4000000 in
set_option maxRecDepth 100000 in
/-- GameTextLaw.law([I)Z -/
theorem lw_41_b1 {d : Nat} {σ : st_S} {x_b x_k : Int32} {q : vz_O × vz_H} {n L : Nat} {xs : Nat → Int32} (hs : gF σ 0 = .inl (0, L, .inl xs)) (hn : n + 6 ≤ L) (hL : L ≤ 3072) (hr_1_5 : σ.2.2.1 1 5 = 20) (hr_66_9 : σ.2.2.1 66 9 = 115) (c_1 : ¬ (σ.1 1 7) = 0) (c_2 : (xs (n + 1)) = 1) (c_3 : ¬ (σ.1 66 11) = 0) (c_4 : ¬ (xs (n + 1)) = 0) (c_5 : ¬ (¬ (xs (n + 1)) = 1)) (c_6 : (σ.1 20 8) = (σ.1 115 6)) (k : vz_ev P0 (d + 2) 0 615 [(4, .int (nI n)), (6, .int x_b), (5, .int x_k), (3, .ref 187), (2, .ref 66), (1, .ref 1), (0, .ref 0)] [] (hp (st_i (σ) 66 0 0)) q) : vz_ev P0 (d + 2) 0 267 [(4, .int (nI n)), (6, .int x_b), (5, .int x_k), (3, .ref 187), (2, .ref 66), (1, .ref 1), (0, .ref 0)] [] (hp σ) q := by
  refine ev_x (i := .aload_n 1) (len := 1) (p' := 268) (s' := [.ref 1]) rfl rfl rfl ?_
  refine ev_x (i := .aload_n 0) (len := 1) (p' := 269) (s' := [.ref 0, .ref 1]) rfl rfl rfl ?_
  refine ev_x (i := .iload 4) (len := 2) (p' := 271) (s' := [.int (nI n), .ref 0, .ref 1]) rfl rfl rfl ?_
  refine ev_x (i := .iconst 1) (len := 1) (p' := 272) (s' := [.int 1, .int (nI n), .ref 0, .ref 1]) rfl rfl rfl ?_
  refine ev_x (i := .iadd) (len := 1) (p' := 273) (s' := [.int ((nI n) + 1), .ref 0, .ref 1]) rfl rfl rfl ?_
  refine ev_st (st' := [.int (nI (n + 1)), .ref 0, .ref 1]) (congrArg (fun z => Value.int z :: [.ref 0, .ref 1]) (nI_add n 1)) ?_
  refine ev_sg (p' := 274) rfl rfl hs (vp_in_nI (by omega) (by omega)) rfl ?_
  refine ev_st (st' := [.int (xs (n + 1)), .ref 1]) (congrArg (fun z => Value.int (xs z) :: [.ref 1]) (nI_clamp (n := n + 1) (by omega))) ?_
  refine ev_cv (d := d + 1) (As := [.int (xs (n + 1))]) (a := 1) (p' := 277) rfl rfl rfl ly_1 rfl rfl rfl rfl rfl rfl rfl (lz_333 (d := d + 0) (hr_1_5 := hr_1_5) (c_1 := c_1) (c_2 := c_2)) ?_
  refine ev_st (st' := [.int (σ.1 20 8)]) rfl ?_
  refine ev_x (i := .aload_n 2) (len := 1) (p' := 278) (s' := [.ref 66, .int (σ.1 20 8)]) rfl rfl rfl ?_
  refine ev_x (i := .aload_n 0) (len := 1) (p' := 279) (s' := [.ref 0, .ref 66, .int (σ.1 20 8)]) rfl rfl rfl ?_
  refine ev_x (i := .iload 4) (len := 2) (p' := 281) (s' := [.int (nI n), .ref 0, .ref 66, .int (σ.1 20 8)]) rfl rfl rfl ?_
  refine ev_x (i := .iconst 1) (len := 1) (p' := 282) (s' := [.int 1, .int (nI n), .ref 0, .ref 66, .int (σ.1 20 8)]) rfl rfl rfl ?_
  refine ev_x (i := .iadd) (len := 1) (p' := 283) (s' := [.int ((nI n) + 1), .ref 0, .ref 66, .int (σ.1 20 8)]) rfl rfl rfl ?_
  refine ev_st (st' := [.int (nI (n + 1)), .ref 0, .ref 66, .int (σ.1 20 8)]) (congrArg (fun z => Value.int z :: [.ref 0, .ref 66, .int (σ.1 20 8)]) (nI_add n 1)) ?_
  refine ev_sg (p' := 284) rfl rfl hs (vp_in_nI (by omega) (by omega)) rfl ?_
  refine ev_st (st' := [.int (xs (n + 1)), .ref 66, .int (σ.1 20 8)]) (congrArg (fun z => Value.int (xs z) :: [.ref 66, .int (σ.1 20 8)]) (nI_clamp (n := n + 1) (by omega))) ?_
  refine ev_cv (d := d + 1) (As := [.int (xs (n + 1))]) (a := 66) (p' := 287) rfl rfl rfl ly_66 rfl rfl rfl rfl rfl rfl rfl (lz_334 (d := d + 0) (hr_66_9 := hr_66_9) (c_1 := c_3) (c_2 := c_4) (c_3 := c_5)) ?_
  refine ev_st (st' := [.int (σ.1 115 6), .int (σ.1 20 8)]) rfl ?_
  refine ev_b2 (t := 615) (p' := 615) rfl rfl rfl (if_pos c_6) ?_
  exact k
set_option maxHeartbeats 4000000 in
set_option maxRecDepth 100000 in
/-- GameTextLaw.law([I)Z -/
theorem lw_42_b1 {d : Nat} {σ : st_S} {x_b x_k : Int32} {q : vz_O × vz_H} {n L : Nat} {xs : Nat → Int32} (hs : gF σ 0 = .inl (0, L, .inl xs)) (hn : n + 6 ≤ L) (hL : L ≤ 3072) (hr_1_5 : σ.2.2.1 1 5 = 20) (hr_66_9 : σ.2.2.1 66 9 = 115) (c_1 : ¬ (σ.1 1 7) = 0) (c_2 : (xs (n + 1)) = 2) (c_3 : ¬ (σ.1 66 11) = 0) (c_4 : ¬ (xs (n + 1)) = 0) (c_5 : ¬ (xs (n + 1)) = 1) (c_6 : ¬ (¬ (xs (n + 1)) = 2)) (c_7 : (σ.1 20 10) = (σ.1 115 18)) (k : vz_ev P0 (d + 2) 0 615 [(4, .int (nI n)), (6, .int x_b), (5, .int x_k), (3, .ref 187), (2, .ref 66), (1, .ref 1), (0, .ref 0)] [] (hp (st_i (σ) 66 0 0)) q) : vz_ev P0 (d + 2) 0 267 [(4, .int (nI n)), (6, .int x_b), (5, .int x_k), (3, .ref 187), (2, .ref 66), (1, .ref 1), (0, .ref 0)] [] (hp σ) q := by
  refine ev_x (i := .aload_n 1) (len := 1) (p' := 268) (s' := [.ref 1]) rfl rfl rfl ?_
  refine ev_x (i := .aload_n 0) (len := 1) (p' := 269) (s' := [.ref 0, .ref 1]) rfl rfl rfl ?_
  refine ev_x (i := .iload 4) (len := 2) (p' := 271) (s' := [.int (nI n), .ref 0, .ref 1]) rfl rfl rfl ?_
  refine ev_x (i := .iconst 1) (len := 1) (p' := 272) (s' := [.int 1, .int (nI n), .ref 0, .ref 1]) rfl rfl rfl ?_
  refine ev_x (i := .iadd) (len := 1) (p' := 273) (s' := [.int ((nI n) + 1), .ref 0, .ref 1]) rfl rfl rfl ?_
  refine ev_st (st' := [.int (nI (n + 1)), .ref 0, .ref 1]) (congrArg (fun z => Value.int z :: [.ref 0, .ref 1]) (nI_add n 1)) ?_
  refine ev_sg (p' := 274) rfl rfl hs (vp_in_nI (by omega) (by omega)) rfl ?_
  refine ev_st (st' := [.int (xs (n + 1)), .ref 1]) (congrArg (fun z => Value.int (xs z) :: [.ref 1]) (nI_clamp (n := n + 1) (by omega))) ?_
  refine ev_cv (d := d + 1) (As := [.int (xs (n + 1))]) (a := 1) (p' := 277) rfl rfl rfl ly_1 rfl rfl rfl rfl rfl rfl rfl (lz_336 (d := d + 0) (hr_1_5 := hr_1_5) (c_1 := c_1) (c_2 := c_2)) ?_
  refine ev_st (st' := [.int (σ.1 20 10)]) rfl ?_
  refine ev_x (i := .aload_n 2) (len := 1) (p' := 278) (s' := [.ref 66, .int (σ.1 20 10)]) rfl rfl rfl ?_
  refine ev_x (i := .aload_n 0) (len := 1) (p' := 279) (s' := [.ref 0, .ref 66, .int (σ.1 20 10)]) rfl rfl rfl ?_
  refine ev_x (i := .iload 4) (len := 2) (p' := 281) (s' := [.int (nI n), .ref 0, .ref 66, .int (σ.1 20 10)]) rfl rfl rfl ?_
  refine ev_x (i := .iconst 1) (len := 1) (p' := 282) (s' := [.int 1, .int (nI n), .ref 0, .ref 66, .int (σ.1 20 10)]) rfl rfl rfl ?_
  refine ev_x (i := .iadd) (len := 1) (p' := 283) (s' := [.int ((nI n) + 1), .ref 0, .ref 66, .int (σ.1 20 10)]) rfl rfl rfl ?_
  refine ev_st (st' := [.int (nI (n + 1)), .ref 0, .ref 66, .int (σ.1 20 10)]) (congrArg (fun z => Value.int z :: [.ref 0, .ref 66, .int (σ.1 20 10)]) (nI_add n 1)) ?_
  refine ev_sg (p' := 284) rfl rfl hs (vp_in_nI (by omega) (by omega)) rfl ?_
  refine ev_st (st' := [.int (xs (n + 1)), .ref 66, .int (σ.1 20 10)]) (congrArg (fun z => Value.int (xs z) :: [.ref 66, .int (σ.1 20 10)]) (nI_clamp (n := n + 1) (by omega))) ?_
  refine ev_cv (d := d + 1) (As := [.int (xs (n + 1))]) (a := 66) (p' := 287) rfl rfl rfl ly_66 rfl rfl rfl rfl rfl rfl rfl (lz_337 (d := d + 0) (hr_66_9 := hr_66_9) (c_1 := c_3) (c_2 := c_4) (c_3 := c_5) (c_4 := c_6)) ?_
  refine ev_st (st' := [.int (σ.1 115 18), .int (σ.1 20 10)]) rfl ?_
  refine ev_b2 (t := 615) (p' := 615) rfl rfl rfl (if_pos c_7) ?_
  exact k
set_option maxHeartbeats 4000000 in
set_option maxRecDepth 100000 in
/-- GameTextLaw.law([I)Z -/
theorem lw_1f_b1 {d : Nat} {σ : st_S} {x_b x_k : Int32} {q : vz_O × vz_H} {n L : Nat} {xs : Nat → Int32} (hs : gF σ 0 = .inl (0, L, .inl xs)) (hn : n + 6 ≤ L) (hL : L ≤ 3072) (hr_66_1 : σ.2.2.1 66 1 = 69) (c_1 : ¬ ((xs (n + 1)) < 0)) (c_2 : (xs (n + 1)) ≤ 20) (c_3 : ¬ (20 ≤ (σ.1 2 1))) (c_4 : ¬ (20 < (xs (n + 1)))) (c_5 : ¬ (20 ≤ (σ.1 69 1))) (k : vz_ev P0 (d + 10) 0 615 [(6, .int 0), (5, .int 1), (4, .int (nI n)), (3, .ref 187), (2, .ref 66), (1, .ref 1), (0, .ref 0)] [] (hp (st_i (st_n (σ) 1 6) 66 0 1)) q) : vz_ev P0 (d + 10) 0 185 [(4, .int (nI n)), (6, .int x_b), (5, .int x_k), (3, .ref 187), (2, .ref 66), (1, .ref 1), (0, .ref 0)] [] (hp σ) q := by
  refine ev_x (i := .aload_n 1) (len := 1) (p' := 186) (s' := [.ref 1]) rfl rfl rfl ?_
  refine ev_x (i := .aload_n 0) (len := 1) (p' := 187) (s' := [.ref 0, .ref 1]) rfl rfl rfl ?_
  refine ev_x (i := .iload 4) (len := 2) (p' := 189) (s' := [.int (nI n), .ref 0, .ref 1]) rfl rfl rfl ?_
  refine ev_x (i := .iconst 1) (len := 1) (p' := 190) (s' := [.int 1, .int (nI n), .ref 0, .ref 1]) rfl rfl rfl ?_
  refine ev_x (i := .iadd) (len := 1) (p' := 191) (s' := [.int ((nI n) + 1), .ref 0, .ref 1]) rfl rfl rfl ?_
  refine ev_st (st' := [.int (nI (n + 1)), .ref 0, .ref 1]) (congrArg (fun z => Value.int z :: [.ref 0, .ref 1]) (nI_add n 1)) ?_
  refine ev_sg (p' := 192) rfl rfl hs (vp_in_nI (by omega) (by omega)) rfl ?_
  refine ev_st (st' := [.int (xs (n + 1)), .ref 1]) (congrArg (fun z => Value.int (xs z) :: [.ref 1]) (nI_clamp (n := n + 1) (by omega))) ?_
  refine ev_x (i := .aload_n 3) (len := 1) (p' := 193) (s' := [.ref 187, .int (xs (n + 1)), .ref 1]) rfl rfl rfl ?_
  refine ev_callS (d := d + 9) (As := [.ref 1, .int (xs (n + 1)), .ref 187]) rfl rfl rfl (by decide) rfl rfl rfl rfl rfl (lz_298 (d := d + 0) (c_1 := c_1) (c_2 := c_2) (c_3 := c_3)) ?_
  refine ev_st (st' := [.int 1]) rfl ?_
  refine ev_pc (pc' := 196) rfl ?_
  refine ev_x (i := .istore 5) (len := 2) (p' := 198) (s' := []) (l' := [(5, .int 1), (4, .int (nI n)), (6, .int x_b), (3, .ref 187), (2, .ref 66), (1, .ref 1), (0, .ref 0)]) rfl rfl rfl ?_
  refine ev_x (i := .aload_n 2) (len := 1) (p' := 199) (s' := [.ref 66]) rfl rfl rfl ?_
  refine ev_x (i := .aload_n 0) (len := 1) (p' := 200) (s' := [.ref 0, .ref 66]) rfl rfl rfl ?_
  refine ev_x (i := .iload 4) (len := 2) (p' := 202) (s' := [.int (nI n), .ref 0, .ref 66]) rfl rfl rfl ?_
  refine ev_x (i := .iconst 1) (len := 1) (p' := 203) (s' := [.int 1, .int (nI n), .ref 0, .ref 66]) rfl rfl rfl ?_
  refine ev_x (i := .iadd) (len := 1) (p' := 204) (s' := [.int ((nI n) + 1), .ref 0, .ref 66]) rfl rfl rfl ?_
  refine ev_st (st' := [.int (nI (n + 1)), .ref 0, .ref 66]) (congrArg (fun z => Value.int z :: [.ref 0, .ref 66]) (nI_add n 1)) ?_
  refine ev_sg (p' := 205) rfl rfl hs (vp_in_nI (by omega) (by omega)) rfl ?_
  refine ev_st (st' := [.int (xs (n + 1)), .ref 66]) (congrArg (fun z => Value.int (xs z) :: [.ref 66]) (nI_clamp (n := n + 1) (by omega))) ?_
  refine ev_cv (d := d + 9) (As := [.int (xs (n + 1))]) (a := 66) (p' := 208) rfl rfl rfl ly_66 rfl rfl rfl rfl rfl rfl rfl (lz_341 (d := d + 8) (hr_66_1 := hr_66_1) (c_1 := c_1) (c_2 := c_4) (c_3 := c_5)) ?_
  refine ev_st (st' := [.int 0]) rfl ?_
  refine ev_x (i := .istore 6) (len := 2) (p' := 210) (s' := []) (l' := [(6, .int 0), (5, .int 1), (4, .int (nI n)), (3, .ref 187), (2, .ref 66), (1, .ref 1), (0, .ref 0)]) rfl rfl rfl ?_
  refine ev_x (i := .aload_n 2) (len := 1) (p' := 211) (s' := [.ref 66]) rfl rfl rfl ?_
  refine ev_cv (d := d + 9) (As := []) (a := 66) (p' := 214) rfl rfl rfl ly_66 rfl rfl rfl rfl rfl rfl rfl (lz_246 (d := d + 8) (hi_66_0 := rfl)) ?_
  refine ev_st (st' := [.int 1]) rfl ?_
  refine ev_x (i := .iload 5) (len := 2) (p' := 216) (s' := [.int 1, .int 1]) rfl rfl rfl ?_
  refine ev_b2 (t := 221) (p' := 221) rfl rfl rfl (by decide) ?_
  refine ev_x (i := .iload 5) (len := 2) (p' := 223) (s' := [.int 1]) rfl rfl rfl ?_
  refine ev_b0 (t := 238) (p' := 238) rfl rfl rfl (by decide) ?_
  refine ev_x (i := .goto 377) (len := 3) (p' := 615) (s' := []) rfl rfl rfl ?_
  exact k
set_option maxHeartbeats 4000000 in
set_option maxRecDepth 100000 in
/-- GameTextLaw.law([I)Z -/
theorem lw_1o_b1 {d : Nat} {σ : st_S} {x_b x_k : Int32} {q : vz_O × vz_H} {n L : Nat} {xs : Nat → Int32} (hs : gF σ 0 = .inl (0, L, .inl xs)) (hn : n + 6 ≤ L) (hL : L ≤ 3072) (hr_66_1 : σ.2.2.1 66 1 = 69) (c_1 : ¬ ((xs (n + 1)) < 0)) (c_2 : (xs (n + 1)) ≤ 20) (c_3 : 20 ≤ (σ.1 2 1)) (c_4 : vp_in 0 (gN σ 187)) (c_5 : ¬ (20 < (xs (n + 1)))) (c_6 : 20 ≤ (σ.1 69 1)) (c_7 : (lg_cmp ((((σ.1 2 1) - 20) + (xs (n + 1))) : Int32).toInt64 ((((σ.1 69 1) - 20) + (xs (n + 1))) : Int32).toInt64) = 0) (k : vz_ev P0 (d + 3) 0 615 [(6, .int (((σ.1 69 1) - 20) + (xs (n + 1)))), (5, .int 0), (4, .int (nI n)), (3, .ref 187), (2, .ref 66), (1, .ref 1), (0, .ref 0)] [] (hp (st_i (st_i (st_E (st_i (σ) 2 1 (((σ.1 2 1) - 20) + (xs (n + 1)))) 187 0 ((((σ.1 2 1) - 20) + (xs (n + 1))) : Int32).toInt64) 66 0 0) 69 1 (((σ.1 69 1) - 20) + (xs (n + 1))))) q) : vz_ev P0 (d + 3) 0 185 [(4, .int (nI n)), (6, .int x_b), (5, .int x_k), (3, .ref 187), (2, .ref 66), (1, .ref 1), (0, .ref 0)] [] (hp σ) q := by
  refine ev_x (i := .aload_n 1) (len := 1) (p' := 186) (s' := [.ref 1]) rfl rfl rfl ?_
  refine ev_x (i := .aload_n 0) (len := 1) (p' := 187) (s' := [.ref 0, .ref 1]) rfl rfl rfl ?_
  refine ev_x (i := .iload 4) (len := 2) (p' := 189) (s' := [.int (nI n), .ref 0, .ref 1]) rfl rfl rfl ?_
  refine ev_x (i := .iconst 1) (len := 1) (p' := 190) (s' := [.int 1, .int (nI n), .ref 0, .ref 1]) rfl rfl rfl ?_
  refine ev_x (i := .iadd) (len := 1) (p' := 191) (s' := [.int ((nI n) + 1), .ref 0, .ref 1]) rfl rfl rfl ?_
  refine ev_st (st' := [.int (nI (n + 1)), .ref 0, .ref 1]) (congrArg (fun z => Value.int z :: [.ref 0, .ref 1]) (nI_add n 1)) ?_
  refine ev_sg (p' := 192) rfl rfl hs (vp_in_nI (by omega) (by omega)) rfl ?_
  refine ev_st (st' := [.int (xs (n + 1)), .ref 1]) (congrArg (fun z => Value.int (xs z) :: [.ref 1]) (nI_clamp (n := n + 1) (by omega))) ?_
  refine ev_x (i := .aload_n 3) (len := 1) (p' := 193) (s' := [.ref 187, .int (xs (n + 1)), .ref 1]) rfl rfl rfl ?_
  refine ev_callS (d := d + 2) (As := [.ref 1, .int (xs (n + 1)), .ref 187]) rfl rfl rfl (by decide) rfl rfl rfl rfl rfl (lz_303 (d := d + 0) (c_1 := c_1) (c_2 := c_2) (c_3 := c_3) (c_4 := c_4)) ?_
  refine ev_st (st' := [.int 0]) rfl ?_
  refine ev_pc (pc' := 196) rfl ?_
  refine ev_x (i := .istore 5) (len := 2) (p' := 198) (s' := []) (l' := [(5, .int 0), (4, .int (nI n)), (6, .int x_b), (3, .ref 187), (2, .ref 66), (1, .ref 1), (0, .ref 0)]) rfl rfl rfl ?_
  refine ev_x (i := .aload_n 2) (len := 1) (p' := 199) (s' := [.ref 66]) rfl rfl rfl ?_
  refine ev_x (i := .aload_n 0) (len := 1) (p' := 200) (s' := [.ref 0, .ref 66]) rfl rfl rfl ?_
  refine ev_x (i := .iload 4) (len := 2) (p' := 202) (s' := [.int (nI n), .ref 0, .ref 66]) rfl rfl rfl ?_
  refine ev_x (i := .iconst 1) (len := 1) (p' := 203) (s' := [.int 1, .int (nI n), .ref 0, .ref 66]) rfl rfl rfl ?_
  refine ev_x (i := .iadd) (len := 1) (p' := 204) (s' := [.int ((nI n) + 1), .ref 0, .ref 66]) rfl rfl rfl ?_
  refine ev_st (st' := [.int (nI (n + 1)), .ref 0, .ref 66]) (congrArg (fun z => Value.int z :: [.ref 0, .ref 66]) (nI_add n 1)) ?_
  refine ev_sg (p' := 205) rfl rfl hs (vp_in_nI (by omega) (by omega)) rfl ?_
  refine ev_st (st' := [.int (xs (n + 1)), .ref 66]) (congrArg (fun z => Value.int (xs z) :: [.ref 66]) (nI_clamp (n := n + 1) (by omega))) ?_
  refine ev_cv (d := d + 2) (As := [.int (xs (n + 1))]) (a := 66) (p' := 208) rfl rfl rfl ly_66 rfl rfl rfl rfl rfl rfl rfl (lz_346 (d := d + 1) (hr_66_1 := hr_66_1) (c_1 := c_1) (c_2 := c_5) (c_3 := c_6)) ?_
  refine ev_st (st' := [.int (((σ.1 69 1) - 20) + (xs (n + 1)))]) rfl ?_
  refine ev_x (i := .istore 6) (len := 2) (p' := 210) (s' := []) (l' := [(6, .int (((σ.1 69 1) - 20) + (xs (n + 1)))), (5, .int 0), (4, .int (nI n)), (3, .ref 187), (2, .ref 66), (1, .ref 1), (0, .ref 0)]) rfl rfl rfl ?_
  refine ev_x (i := .aload_n 2) (len := 1) (p' := 211) (s' := [.ref 66]) rfl rfl rfl ?_
  refine ev_cv (d := d + 2) (As := []) (a := 66) (p' := 214) rfl rfl rfl ly_66 rfl rfl rfl rfl rfl rfl rfl (lz_270 (d := d + 1) (hi_66_0 := rfl)) ?_
  refine ev_st (st' := [.int 0]) rfl ?_
  refine ev_x (i := .iload 5) (len := 2) (p' := 216) (s' := [.int 0, .int 0]) rfl rfl rfl ?_
  refine ev_b2 (t := 221) (p' := 221) rfl rfl rfl (by decide) ?_
  refine ev_x (i := .iload 5) (len := 2) (p' := 223) (s' := [.int 0]) rfl rfl rfl ?_
  refine ev_b0 (t := 238) (p' := 226) rfl rfl rfl (by decide) ?_
  refine ev_x (i := .aload_n 3) (len := 1) (p' := 227) (s' := [.ref 187]) rfl rfl rfl ?_
  refine ev_x (i := .iconst 0) (len := 1) (p' := 228) (s' := [.int 0, .ref 187]) rfl rfl rfl ?_
  refine ev_gL (p' := 229) (v := ((((σ.1 2 1) - 20) + (xs (n + 1))) : Int32).toInt64) rfl rfl ly_187 rfl c_4 rfl ?_
  refine ev_x (i := .iload 6) (len := 2) (p' := 231) (s' := [.int (((σ.1 69 1) - 20) + (xs (n + 1))), .long ((((σ.1 2 1) - 20) + (xs (n + 1))) : Int32).toInt64]) rfl rfl rfl ?_
  refine ev_x (i := .i2l) (len := 1) (p' := 232) (s' := [.long ((((σ.1 69 1) - 20) + (xs (n + 1))) : Int32).toInt64, .long ((((σ.1 2 1) - 20) + (xs (n + 1))) : Int32).toInt64]) rfl rfl rfl ?_
  refine ev_x (i := .lcmp) (len := 1) (p' := 233) (s' := [.int (lg_cmp ((((σ.1 2 1) - 20) + (xs (n + 1))) : Int32).toInt64 ((((σ.1 69 1) - 20) + (xs (n + 1))) : Int32).toInt64)]) rfl rfl rfl ?_
  refine ev_b0 (t := 238) (p' := 238) rfl rfl rfl (if_pos c_7) ?_
  refine ev_x (i := .goto 377) (len := 3) (p' := 615) (s' := []) rfl rfl rfl ?_
  exact k
